/** The boundary cases of a new object, and of the last of its 512 calls: promise 1. */
public final class BoundaryNewTest {
    private static final int CALLS = 512;

    public static void main(String[] args) {
        noRulesNoLines();
        emptyTexts();
        emptyExpressions();
        objectsShareNothing();
        fiveHundredAndTwelveCalls();
        theDearestCalls();
        Check.finish();
    }

    private static void noRulesNoLines() {
        Check.sentence("LineRules(): No rules, .. no lines");
        LineRules x = new LineRules();
        for (int what = 0; what <= 5; what++) {
            Check.due("count(" + what + ")", x.count(what), 0);
        }
        Check.due("NONE", LineRules.NONE, -1);
        Check.due("end", x.end(), LineRules.NONE);
        Check.due("clear", x.clear(), 0);
        Check.due("forget", x.forget(), 0);
        Check.due("signs of no line", x.sign(0, -1), 0);
        Check.refused("a field of no line", Check.NO_SUCH, () -> x.sign(1, -1));
        Check.refused("an action of no rule", Check.NO_SUCH, () -> x.action(0, 0, 0, 0));
        Check.due("the first rule", x.rule(0, 0, 0), 0);
        Check.due("the first line", x.line(), 1);
        Check.due("lines", x.count(2), 1);
        Check.due("the separator", x.separator(255), 32);
    }

    private static void emptyTexts() {
        Check.sentence("LineRules(): .. empty texts");
        for (int k = 0; k < 6; k++) {
            LineRules x = Check.withExpression(".");
            x.rule(0, 0, 0);
            x.action(0, 7, 0, k);
            Check.line(x, "ab");
            Check.due("a line of text " + k, x.sign(0, -1), 0);
        }
    }

    private static void emptyExpressions() {
        Check.sentence("At first an expression is the empty text");
        for (int k = 0; k < 6; k++) {
            LineRules x = new LineRules();
            Check.text(x, 0, "-");
            x.rule(1, k, 0);
            x.action(0, 8, k, 0);
            x.action(0, 7, k, 0);
            x.rule(2, k, 30);
            Check.due("rules with expression " + k, Check.line(x, "ab"), 2);
            Check.due("its matches", Check.row(x, 0), "-a-b-");
            Check.due("its first match", Check.printed(x), "\n");
        }
    }

    private static void objectsShareNothing() {
        Check.sentence("A new object: no other object is seen in it");
        LineRules used = Check.withExpression("a");
        Check.text(used, 0, "t");
        used.separator(',');
        used.rule(0, 0, 0);
        used.action(0, 3, 1, 1);
        used.action(0, 0, 0, 0);
        used.action(0, 11, 0, 5);
        Check.line(used, "a,b");
        Check.feed(used, "a").find(0, 0);
        LineRules before = new LineRules();
        Check.due("all of a new one", Whole.of(new LineRules()), Whole.of(before));
        Check.due("the used one's line", Check.row(used, 0), "a,b");
        Check.due("the used one's end", used.end(), 1);
    }

    private static void fiveHundredAndTwelveCalls() {
        Check.sentence("An object is used for at most 512 calls after it has been made");
        LineRules x = Check.withAction(12, 0, 0);
        x.action(0, 0, 0, 0);
        for (int call = 4; call <= CALLS - 3; call++) {
            Check.due("call " + call, x.line(), 1);
        }
        Check.due("lines", x.count(2), 506);
        Check.due("the last line's number", x.counter(0), 506);
        Check.due("call 512", x.printed(505), 10);
    }

    /** Every line goes through twelve rules with ten actions each that look for an expression and print. */
    private static void theDearestCalls() {
        LineRules x = new LineRules();
        Check.feed(x, "((((((((((a*)*b?)*)*c?)*)*)*d?)*)*)*)*" + "|a?".repeat(7)).expression(0);
        Check.feed(x, "a".repeat(120)).text(0);
        for (int r = 0; r < 12; r++) {
            x.rule(1, 0, 0);
            for (int n = 0; n < 10; n++) {
                x.action(r, n % 2 == 0 ? 7 : 8, 0, 0);
            }
        }
        for (int n = 0; n < 30; n++) {
            Check.due("a full line", Check.line(x, "ab".repeat(60)), 12);
        }
        Check.due("signs printed", x.count(4), 30 * 60 * 121);
        Check.due("the line", Check.row(x, 0), "a".repeat(120));
    }
}
