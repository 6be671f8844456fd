public final class Promise05TextTest {
    public static void main(String[] args) {
        padBecomesText();
        textsAreLong();
        wrongNumbers();
        Check.finish();
    }

    private static void padBecomesText() {
        LineRules x = Check.withExpression("-");
        for (int k = 0; k < 6; k++) {
            Check.due("text " + k, Check.feed(x, "t".repeat(k) + k).text(k), k + 1);
            Check.due("the pad", x.count(0), 0);
        }
        x.rule(0, 0, 0);
        for (int k = 5; k >= 0; k--) {
            x.action(0, 6, 0, k);
        }
        Check.line(x, "-,-,-,-,-,-");
        Check.due("the texts", Check.row(x, 0), "ttttt5,tttt4,ttt3,tt2,t1,0");
        Check.due("an empty text", x.text(5), 0);
        Check.text(x, 4, "[new]");
        Check.line(x, "-,-,-");
        Check.due("newer texts", Check.row(x, 0), ",[new],ttt3");
    }

    private static void textsAreLong() {
        LineRules x = new LineRules();
        x.rule(0, 0, 0);
        x.action(0, 6, 0, 3);
        Check.text(x, 3, "y".repeat(120));
        Check.line(x, "z");
        Check.due("120 signs", Check.row(x, 0), "y".repeat(120));
    }

    private static void wrongNumbers() {
        LineRules x = Check.feed(new LineRules(), "ab");
        for (int k : new int[] {-1, 6, Integer.MIN_VALUE, Integer.MAX_VALUE}) {
            Check.refused("text " + k, Check.NO_SUCH, () -> x.text(k));
        }
        Check.due("the pad", x.count(0), 2);
    }
}
