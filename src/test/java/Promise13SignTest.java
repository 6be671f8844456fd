public final class Promise13SignTest {
    public static void main(String[] args) {
        LineRules x = new LineRules();
        Check.due("no line", x.sign(0, -1), 0);
        Check.line(x, "  ab\u00ff c ");
        Check.due("length of the line", x.sign(0, -1), 8);
        Check.due("sign 0", x.sign(0, 0), 32);
        Check.due("sign 2", x.sign(0, 2), 97);
        Check.due("the last sign", x.sign(0, 7), 32);
        Check.due("length of field 1", x.sign(1, -1), 3);
        Check.due("sign of field 1", x.sign(1, 2), 255);
        Check.due("length of field 2", x.sign(2, -1), 1);
        Check.due("sign of field 2", x.sign(2, 0), 99);
        refused(x, 0, 8);
        refused(x, 0, -2);
        refused(x, 0, Integer.MIN_VALUE);
        refused(x, 0, Integer.MAX_VALUE);
        refused(x, 1, 3);
        refused(x, 1, -2);
        refused(x, 2, 1);
        refused(x, 3, -1);
        refused(x, 3, 0);
        refused(x, -1, -1);
        refused(x, 31, -1);
        refused(x, Integer.MIN_VALUE, -1);
        refused(x, Integer.MAX_VALUE, -1);
        emptyFields();
        ofTheLatestLine(x);
        Check.finish();
    }

    private static void refused(LineRules x, int field, int j) {
        Check.refused("sign " + field + " " + j, Check.NO_SUCH, () -> x.sign(field, j));
    }

    private static void emptyFields() {
        LineRules x = new LineRules();
        x.separator(',');
        Check.line(x, ",a");
        Check.due("length of an empty field", x.sign(1, -1), 0);
        refused(x, 1, 0);
        Check.due("sign of field 2", x.sign(2, 0), 97);
        Check.line(x, ",".repeat(40));
        Check.due("length of field 30", x.sign(30, -1), 0);
        refused(x, 31, -1);
    }

    private static void ofTheLatestLine(LineRules x) {
        Check.feed(x, "pad");
        Check.due("the pad is no line", x.sign(0, -1), 8);
        x.clear();
        x.line();
        Check.due("an empty line", x.sign(0, -1), 0);
        refused(x, 0, 0);
        refused(x, 1, -1);
        x.rule(0, 0, 0);
        x.action(0, 4, 3, 1);
        Check.line(x, "q r");
        Check.due("the line as it is now", Check.row(x, 0), "q r q");
        Check.due("a field as it is now", Check.row(x, 3), "q");
    }
}
