public final class Promise06SeparatorTest {
    public static void main(String[] args) {
        answersWhatItWas();
        blanksPart();
        othersPart();
        atMostThirty();
        laterLinesAlone();
        Check.finish();
    }

    private static void answersWhatItWas() {
        LineRules x = new LineRules();
        Check.due("separator 1", x.separator(1), 32);
        Check.due("separator 255", x.separator(255), 1);
        for (int sign : new int[] {0, -1, 256, Integer.MIN_VALUE, Integer.MAX_VALUE}) {
            Check.refused("separator " + sign, Check.ARGUMENT, () -> x.separator(sign));
        }
        Check.due("separator 32", x.separator(32), 255);
        Check.due("separator 32 again", x.separator(32), 32);
    }

    private static void fieldsAre(int separator, String line, String fields) {
        LineRules x = new LineRules();
        x.separator(separator);
        Check.line(x, line);
        Check.due("fields of " + line, Check.fields(x), fields);
        Check.due("the line", Check.row(x, 0), line);
    }

    private static void blanksPart() {
        fieldsAre(' ', "", "");
        fieldsAre(' ', " ", "");
        fieldsAre(' ', "   ", "");
        fieldsAre(' ', "a", "<a>");
        fieldsAre(' ', "ab cd", "<ab><cd>");
        fieldsAre(' ', "  ab   cd  ", "<ab><cd>");
        fieldsAre(' ', "a\tb,c d", "<a\tb,c><d>");
    }

    private static void othersPart() {
        fieldsAre(',', "", "");
        fieldsAre(',', ",", "<><>");
        fieldsAre(',', ",,", "<><><>");
        fieldsAre(',', "a", "<a>");
        fieldsAre(',', " ", "< >");
        fieldsAre(',', "a,b", "<a><b>");
        fieldsAre(',', ",a,,b c,", "<><a><><b c><>");
        fieldsAre(255, "a\u00ffb", "<a><b>");
        fieldsAre(1, "a\u0001", "<a><>");
    }

    private static void atMostThirty() {
        fieldsAre(' ', "a ".repeat(29) + " b", "<a>".repeat(29) + "<b>");
        fieldsAre(' ', "a ".repeat(30) + " b c", "<a>".repeat(30));
        fieldsAre(',', ",".repeat(29), "<>".repeat(30));
        fieldsAre(',', ",".repeat(120), "<>".repeat(30));
        fieldsAre(',', "a,".repeat(30) + "b", "<a>".repeat(30));
    }

    private static void laterLinesAlone() {
        LineRules x = new LineRules();
        Check.line(x, "a,b c");
        x.separator(',');
        Check.due("fields stay", Check.fields(x), "<a,b><c>");
        Check.line(x, "a,b c");
        Check.due("fields of the next line", Check.fields(x), "<a><b c>");
    }
}
