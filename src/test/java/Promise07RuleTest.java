public final class Promise07RuleTest {
    private static final int[] NO_FIELDS = {0, 31, -1, Integer.MIN_VALUE, Integer.MAX_VALUE};
    private static final int[] NO_EXPRESSIONS = {-1, 6, Integer.MIN_VALUE, Integer.MAX_VALUE};

    public static void main(String[] args) {
        rulesHaveNumbers();
        wrongPatterns();
        wrongExpressionsAndFields();
        edgesAreTaken();
        atMostTwelve();
        foundInLine();
        foundInField();
        numbersOfFields();
        linesAndFields();
        Check.finish();
    }

    private static void rulesHaveNumbers() {
        LineRules x = new LineRules();
        Check.due("the first rule", x.rule(0, 7, -7), 0);
        Check.due("the second rule", x.rule(6, -100, 0), 1);
        Check.due("count", x.count(1), 2);
        Check.due("a line", Check.line(x, ""), 2);
    }

    private static void refused(int pattern, int a, int b) {
        LineRules x = new LineRules();
        String what = "rule " + pattern + " " + a + " " + b;
        Check.refused(what, Check.NO_SUCH, () -> x.rule(pattern, a, b));
        Check.due("rules behind " + what, x.count(1), 0);
    }

    private static void wrongPatterns() {
        for (int pattern : new int[] {-1, 7, Integer.MIN_VALUE, Integer.MAX_VALUE}) {
            refused(pattern, 1, 1);
        }
    }

    private static void wrongExpressionsAndFields() {
        for (int k : NO_EXPRESSIONS) {
            refused(1, k, 1);
            refused(2, k, 1);
        }
        for (int field : NO_FIELDS) {
            refused(2, 0, field);
            refused(3, field, 1);
            refused(4, field, 1);
        }
    }

    private static void taken(int pattern, int a, int b) {
        Check.due("rule " + pattern + " " + a + " " + b, Check.answer(() -> new LineRules().rule(pattern, a, b)), 0);
    }

    private static void edgesAreTaken() {
        taken(0, Integer.MIN_VALUE, Integer.MAX_VALUE);
        taken(1, 0, Integer.MIN_VALUE);
        taken(1, 5, 31);
        taken(2, 5, 30);
        taken(2, 0, 1);
        taken(3, 30, Integer.MIN_VALUE);
        taken(3, 1, Integer.MAX_VALUE);
        taken(4, 30, Integer.MIN_VALUE);
        taken(5, Integer.MAX_VALUE, Integer.MIN_VALUE);
        taken(6, Integer.MIN_VALUE, Integer.MIN_VALUE);
    }

    private static void atMostTwelve() {
        LineRules x = new LineRules();
        for (int r = 0; r < 12; r++) {
            Check.due("rule", x.rule(0, 0, 0), r);
        }
        Check.refused("a thirteenth rule", Check.STATE, () -> x.rule(0, 0, 0));
        Check.refused("a wrong thirteenth rule", Check.NO_SUCH, () -> x.rule(1, 6, 0));
        Check.due("count", x.count(1), 12);
        Check.due("a line", Check.line(x, "a"), 12);
    }

    /** Whether a rule has a line, for an object whose expression 3 is "b+$". */
    private static void had(String line, int pattern, int a, int b, boolean want) {
        LineRules x = new LineRules();
        Check.expression(x, 3, "b+$");
        x.rule(pattern, a, b);
        Check.due("line " + line + " by " + pattern + " " + a + " " + b, Check.line(x, line), want ? 1 : 0);
    }

    private static void foundInLine() {
        had("ab bb", 1, 3, 0, true);
        had("ab ba", 1, 3, 0, false);
        had("", 1, 3, 0, false);
        had("", 1, 0, 0, true);
    }

    private static void foundInField() {
        had("ab ba", 2, 3, 1, true);
        had("ab ba", 2, 3, 2, false);
        had("ab ba", 2, 3, 3, false);
        had("ab ba", 2, 0, 30, true);
        LineRules x = Check.withExpression("^$");
        x.rule(2, 0, 2);
        Check.due("an empty field that is not there", Check.line(x, "a"), 1);
        Check.due("a field that is there", Check.line(x, "a b"), 0);
    }

    private static void numbersOfFields() {
        had("7 -3x", 3, 1, 7, false);
        had("7 -3x", 3, 1, 8, true);
        had("7 -3x", 3, 2, -3, false);
        had("7 -3x", 3, 2, -2, true);
        had("7 -3x", 3, 3, 0, false);
        had("7 -3x", 3, 3, 1, true);
        had("7 -3x", 4, 1, 7, true);
        had("7 -3x", 4, 1, 6, false);
        had("7 -3x", 4, 2, -3, true);
        had("7 -3x", 4, 2, 3, false);
        had("7 -3x", 4, 30, 0, true);
        had("7 -3x", 4, 30, 1, false);
        had("2147483648", 4, 1, Integer.MIN_VALUE, true);
        had("2147483648", 3, 1, 0, true);
        had("-2147483649", 4, 1, Integer.MAX_VALUE, true);
        had("4294967301", 4, 1, 5, true);
        had("-", 4, 1, 0, true);
        had("--5", 4, 1, 0, true);
        had("+5", 4, 1, 0, true);
        had("x5", 4, 1, 0, true);
        had("007.5", 4, 1, 7, true);
        had("12-3", 4, 1, 12, true);
    }

    private static void linesAndFields() {
        LineRules x = new LineRules();
        x.rule(5, 2, 3);
        x.rule(5, 3, 2);
        x.rule(6, 1, 0);
        Check.due("line 1", Check.line(x, "a"), 0);
        Check.due("line 2", Check.line(x, "a b"), 2);
        Check.due("line 3", Check.line(x, ""), 1);
        Check.due("line 4", Check.line(x, "a b c"), 1);
        had("a b", 6, 2, 0, false);
        had("a b", 6, -1, 0, true);
        had("", 6, 0, 0, false);
        had("", 6, -1, 0, true);
        had("a", 5, 1, 1, true);
        had("a", 5, Integer.MIN_VALUE, Integer.MAX_VALUE, true);
        had("a", 5, Integer.MIN_VALUE, 0, false);
    }
}
