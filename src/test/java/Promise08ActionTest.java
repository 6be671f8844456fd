public final class Promise08ActionTest {
    private static final int[] NO_FIELDS = {0, 31, -1, Integer.MIN_VALUE, Integer.MAX_VALUE};
    private static final int[] NO_COUNTERS = {-1, 8, Integer.MIN_VALUE, Integer.MAX_VALUE};
    private static final int[] NO_SIXTH = {-1, 6, Integer.MIN_VALUE, Integer.MAX_VALUE};

    public static void main(String[] args) {
        answersHowMany();
        wrongRulesAndActions();
        wrongFields();
        wrongCounters();
        wrongExpressionsAndTexts();
        edgesAreTaken();
        atMostTen();
        Check.finish();
    }

    private static void answersHowMany() {
        LineRules x = new LineRules();
        x.rule(0, 0, 0);
        x.rule(0, 0, 0);
        Check.due("the first action", x.action(1, 11, 0, 1), 1);
        Check.due("the second action", x.action(1, 11, 1, 2), 2);
        Check.due("of another rule", x.action(0, 11, 0, 3), 1);
        Check.refused("of no rule", Check.NO_SUCH, () -> x.action(2, 11, 0, 1));
        Check.line(x, "");
        Check.due("counter 0", x.counter(0), 1);
        Check.due("counter 1", x.counter(1), 2);
    }

    private static void refused(int rule, int action, int a, int b) {
        LineRules x = new LineRules();
        x.rule(0, 0, 0);
        String what = "action " + rule + " " + action + " " + a + " " + b;
        Check.refused(what, Check.NO_SUCH, () -> x.action(rule, action, a, b));
        Check.due("actions behind " + what, x.action(0, 0, 0, 0), 1);
    }

    private static void wrongRulesAndActions() {
        for (int rule : new int[] {-1, 1, 12, Integer.MIN_VALUE, Integer.MAX_VALUE}) {
            refused(rule, 0, 0, 0);
        }
        for (int action : new int[] {-1, 13, Integer.MIN_VALUE, Integer.MAX_VALUE}) {
            refused(0, action, 1, 1);
        }
    }

    private static void wrongFields() {
        for (int field : NO_FIELDS) {
            for (int action = 1; action <= 5; action++) {
                refused(0, action, field, 1);
            }
            refused(0, 4, 1, field);
        }
    }

    private static void wrongCounters() {
        for (int counter : NO_COUNTERS) {
            refused(0, 2, 1, counter);
            refused(0, 5, 1, counter);
            refused(0, 9, counter, 1);
            refused(0, 11, counter, 1);
            refused(0, 12, counter, 1);
        }
    }

    private static void wrongExpressionsAndTexts() {
        for (int k : NO_SIXTH) {
            refused(0, 6, k, 1);
            refused(0, 7, k, 1);
            refused(0, 8, k, 1);
            refused(0, 6, 1, k);
            refused(0, 7, 1, k);
        }
    }

    private static void taken(int action, int a, int b) {
        LineRules x = new LineRules();
        x.rule(0, 0, 0);
        Check.due("action " + action + " " + a + " " + b, Check.answer(() -> x.action(0, action, a, b)), 1);
    }

    private static void edgesAreTaken() {
        taken(0, -1, 1000);
        taken(1, 30, -1);
        taken(1, 1, 1000);
        taken(2, 30, 7);
        taken(2, 1, 0);
        taken(3, 30, Integer.MIN_VALUE);
        taken(3, 1, Integer.MAX_VALUE);
        taken(4, 30, 30);
        taken(4, 1, 1);
        taken(5, 30, 7);
        taken(5, 1, 0);
        taken(6, 5, 5);
        taken(6, 0, 0);
        taken(7, 5, 5);
        taken(7, 0, 0);
        taken(8, 5, -1);
        taken(8, 0, 1000);
        taken(9, 7, -1);
        taken(9, 0, 1000);
        taken(10, -1, 1000);
        taken(11, 7, Integer.MIN_VALUE);
        taken(11, 0, Integer.MAX_VALUE);
        taken(12, 7, -1);
        taken(12, 0, 1000);
    }

    private static void atMostTen() {
        LineRules x = new LineRules();
        x.rule(0, 0, 0);
        x.rule(0, 0, 0);
        for (int n = 1; n <= 10; n++) {
            Check.due("action", x.action(0, 0, 0, 0), n);
        }
        Check.refused("an eleventh action", Check.STATE, () -> x.action(0, 0, 0, 0));
        Check.refused("a wrong eleventh action", Check.NO_SUCH, () -> x.action(0, 1, 31, 0));
        Check.due("of another rule", x.action(1, 0, 0, 0), 1);
        Check.line(x, "a");
        Check.due("what is done", Check.printed(x), "a\n".repeat(11));
    }
}
