/** The boundary cases of rules, of their patterns and of their actions' numbers: promises 7, 8 and 9. */
public final class BoundaryRulesTest {
    private static final int LEAST = Integer.MIN_VALUE;
    private static final int GREATEST = Integer.MAX_VALUE;

    public static void main(String[] args) {
        patternsAreSeven();
        expressionsOfPatterns();
        fieldsOfPatterns();
        whatPatternsDoNotLookAt();
        atMostTwelve();
        noSuchPatternComesFirst();
        anyLine();
        foundInTheLine();
        foundInAField();
        numberBelow();
        numberIs();
        linesFromTo();
        moreFields();
        aFieldThatIsNotThere();
        lookedAtWhenItsTurnComes();
        rulesOfActions();
        actionsAreThirteen();
        fieldsOfActions();
        countersOfActions();
        expressionsOfActions();
        textsOfActions();
        whatActionsDoNotLookAt();
        atMostTen();
        noSuchActionComesFirst();
        allRulesGo();
        Check.finish();
    }

    /** What rule() answers in a new object: its number, if it is taken. */
    private static void rule(int pattern, int a, int b, boolean taken) {
        LineRules x = new LineRules();
        String what = "rule(" + pattern + ", " + a + ", " + b + ")";
        Object want = taken ? 0 : "throws NoSuchElementException";
        Check.due(what, Check.answer(() -> x.rule(pattern, a, b)), want);
        Check.due("rules behind " + what, x.count(1), taken ? 1 : 0);
    }

    private static void patternsAreSeven() {
        Check.sentence("NoSuchElementException: pattern");
        for (int pattern = -2; pattern <= 9; pattern++) {
            rule(pattern, 1, 1, pattern >= 0 && pattern <= 6);
        }
        rule(LEAST, 1, 1, false);
        rule(GREATEST, 1, 1, false);
    }

    private static void expressionsOfPatterns() {
        Check.sentence("or the expression of 1, 2");
        for (int a : new int[] {LEAST, -1, 0, 5, 6, GREATEST}) {
            rule(1, a, 1, a == 0 || a == 5);
            rule(2, a, 1, a == 0 || a == 5);
        }
    }

    private static void fieldsOfPatterns() {
        Check.sentence("or the field of 2 (b), 3, 4 (a) is not 1 .. 30");
        for (int field : new int[] {LEAST, -1, 0, 1, 30, 31, GREATEST}) {
            boolean taken = field == 1 || field == 30;
            rule(2, 0, field, taken);
            rule(3, field, 0, taken);
            rule(4, field, 0, taken);
        }
    }

    private static void whatPatternsDoNotLookAt() {
        Check.sentence("Patterns 0, 5 and 6 have no expression and no field, 1 no field; b of 3 and 4 is any number");
        for (int number : new int[] {LEAST, -1, 0, 31, GREATEST}) {
            rule(0, number, number, true);
            rule(1, 0, number, true);
            rule(3, 1, number, true);
            rule(4, 1, number, true);
            rule(5, number, number, true);
            rule(6, number, number, true);
        }
    }

    private static LineRules withTwelve() {
        LineRules x = new LineRules();
        for (int r = 0; r < 12; r++) {
            Check.due("rule " + r, x.rule(0, 0, 0), r);
            Check.due("rules", x.count(1), r + 1);
        }
        return x;
    }

    private static void atMostTwelve() {
        Check.sentence("IllegalStateException: there are twelve");
        LineRules x = withTwelve();
        for (int pattern = 0; pattern <= 6; pattern++) {
            int number = pattern;
            Check.refused("a thirteenth, pattern " + pattern, Check.STATE, () -> x.rule(number, 1, 1));
        }
        Check.due("rules", x.count(1), 12);
        Check.due("an action of the twelfth", x.action(11, 0, 0, 0), 1);
        Check.due("a line", Check.line(x, "a"), 12);
        Check.due("printed by the twelfth", Check.printed(x), "a\n");
        x.forget();
        Check.due("a rule behind forget", x.rule(0, 0, 0), 0);
    }

    private static void noSuchPatternComesFirst() {
        Check.sentence("rule: NoSuchElementException, then IllegalStateException");
        LineRules x = withTwelve();
        Check.refused("pattern 7", Check.NO_SUCH, () -> x.rule(7, 1, 1));
        Check.refused("pattern -1", Check.NO_SUCH, () -> x.rule(-1, 1, 1));
        Check.refused("expression 6", Check.NO_SUCH, () -> x.rule(1, 6, 1));
        Check.refused("field 31 of 2", Check.NO_SUCH, () -> x.rule(2, 1, 31));
        Check.refused("field 0 of 3", Check.NO_SUCH, () -> x.rule(3, 0, 1));
        Check.refused("field 0 of 4", Check.NO_SUCH, () -> x.rule(4, 0, 1));
        Check.due("rules", x.count(1), 12);
    }

    /** Whether a rule has a line, for an object whose expression 5 is "b$" and whose expression 4 is "^$". */
    private static void had(String line, int pattern, int a, int b, boolean want) {
        LineRules x = new LineRules();
        Check.expression(x, 5, "b$");
        Check.expression(x, 4, "^$");
        x.rule(pattern, a, b);
        Check.due("line " + line + " by " + pattern + " " + a + " " + b, Check.line(x, line), want ? 1 : 0);
    }

    private static void anyLine() {
        Check.sentence("0 any line");
        had("", 0, 0, 0, true);
        had("a".repeat(120), 0, LEAST, GREATEST, true);
    }

    private static void foundInTheLine() {
        Check.sentence("1 expression a is found in the line");
        had("a b", 1, 5, 0, true);
        had("b a", 1, 5, 0, false);
        had("", 1, 5, 0, false);
        had("", 1, 4, 0, true);
        had(" ", 1, 4, 0, false);
        had("", 1, 0, 0, true);
        had("a".repeat(119) + "b", 1, 5, 0, true);
    }

    private static void foundInAField() {
        Check.sentence("2 expression a is found in field b");
        had("b a", 2, 5, 1, true);
        had("b a", 2, 5, 2, false);
        had("a ".repeat(29) + "b", 2, 5, 30, true);
        had("a ".repeat(30) + "b", 2, 5, 30, false);
    }

    private static void numberBelow() {
        Check.sentence("3 the number of field a is below b");
        had("5", 3, 1, 4, false);
        had("5", 3, 1, 5, false);
        had("5", 3, 1, 6, true);
        had("-2147483648", 3, 1, LEAST, false);
        had("-2147483648", 3, 1, LEAST + 1, true);
        had("2147483647", 3, 1, GREATEST, false);
        had("2147483648", 3, 1, GREATEST, true);
        had("x -1", 3, 2, 0, true);
    }

    private static void numberIs() {
        Check.sentence("4 it is b");
        had("5", 4, 1, 4, false);
        had("5", 4, 1, 5, true);
        had("5", 4, 1, 6, false);
        had("2147483648", 4, 1, LEAST, true);
        had("-2147483649", 4, 1, GREATEST, true);
        had("4294967301", 4, 1, 5, true);
        had("x", 4, 1, 0, true);
    }

    private static void linesFromTo() {
        Check.sentence("5 the line's number is a .. b .. LINES have numbers 1, 2, ..");
        LineRules x = new LineRules();
        x.rule(5, 2, 3);
        x.rule(5, 3, 2);
        x.rule(5, 4, 4);
        x.rule(5, LEAST, 1);
        x.rule(5, 5, GREATEST);
        x.rule(5, LEAST, 0);
        int[] want = {1, 1, 1, 1, 1, 1};
        for (int line = 1; line <= want.length; line++) {
            Check.due("line " + line, x.line(), want[line - 1]);
        }
        LineRules first = new LineRules();
        first.rule(5, 1, 1);
        Check.due("the first line", first.line(), 1);
        Check.due("the second line", first.line(), 0);
        LineRules none = new LineRules();
        none.rule(5, 3, 1);
        none.rule(5, 0, 0);
        Check.due("a .. b without numbers", none.line() + none.line() + none.line(), 0);
    }

    private static void moreFields() {
        Check.sentence("6 there are more than a fields");
        had("a b", 6, 1, 0, true);
        had("a b", 6, 2, 0, false);
        had("a b", 6, 3, 0, false);
        had("", 6, 0, 0, false);
        had("", 6, -1, 0, true);
        had("a ".repeat(40), 6, 29, 0, true);
        had("a ".repeat(40), 6, 30, 0, false);
        had("a", 6, LEAST, 0, true);
        had("a", 6, GREATEST, 0, false);
    }

    private static void aFieldThatIsNotThere() {
        Check.sentence("(A field that is not there is empty.)");
        had("a", 2, 4, 1, false);
        had("a", 2, 4, 2, true);
        had("a", 2, 4, 30, true);
        had("a", 2, 5, 2, false);
        had("7", 3, 2, 0, false);
        had("7", 3, 2, 1, true);
        had("7", 4, 2, 0, true);
        had("7", 4, 30, 7, false);
        LineRules x = Check.withAction(2, 2, 0);
        x.rule(4, 2, 0);
        Check.line(x, "7 8");
        Check.due("a field that an older line had", Check.line(x, "7"), 2);
        Check.due("its number", x.counter(0), 8);
    }

    private static void lookedAtWhenItsTurnComes() {
        Check.sentence("Patterns (looked at when the rule's turn comes, of the line as it is then)");
        LineRules x = Check.withExpression("b");
        x.rule(6, 2, 0);
        x.rule(0, 0, 0);
        x.action(1, 11, 0, 9);
        x.action(1, 5, 3, 0);
        x.rule(6, 2, 0);
        x.rule(4, 3, 9);
        x.rule(1, 0, 0);
        x.action(4, 6, 0, 0);
        x.rule(1, 0, 0);
        x.rule(2, 0, 1);
        Check.due("a line", Check.line(x, "b"), 4);
        Check.due("as it is then", Check.row(x, 0), "  9");
        Check.due("cut anew", Check.fields(x), "<9>");
    }

    /** What action() answers for a rule without actions: 1, if it is taken. */
    private static void action(int rule, int action, int a, int b, boolean taken) {
        LineRules x = new LineRules();
        x.rule(0, 0, 0);
        x.rule(0, 0, 0);
        String what = "action(" + rule + ", " + action + ", " + a + ", " + b + ")";
        Object want = taken ? 1 : "throws NoSuchElementException";
        Check.due(what, Check.answer(() -> x.action(rule, action, a, b)), want);
        if (!taken) {
            Check.due("rule 0 behind " + what, x.action(0, 0, 0, 0), 1);
            Check.due("rule 1 behind " + what, x.action(1, 0, 0, 0), 1);
        }
    }

    private static void rulesOfActions() {
        Check.sentence("action: NoSuchElementException: rule .. is not there");
        for (int rule : new int[] {LEAST, -1, 0, 1, 2, 11, 12, GREATEST}) {
            action(rule, 0, 0, 0, rule == 0 || rule == 1);
        }
        LineRules x = new LineRules();
        Check.refused("an action without rules", Check.NO_SUCH, () -> x.action(0, 0, 0, 0));
    }

    private static void actionsAreThirteen() {
        Check.sentence("action: NoSuchElementException: .. action .. is not there");
        for (int action = -2; action <= 15; action++) {
            action(0, action, 1, 1, action >= 0 && action <= 12);
        }
        action(0, LEAST, 1, 1, false);
        action(0, GREATEST, 1, 1, false);
    }

    private static void fieldsOfActions() {
        Check.sentence("the field (of 1 to 5; a; of 4 b, too) .. is not there");
        for (int field : new int[] {LEAST, -1, 0, 1, 30, 31, GREATEST}) {
            boolean taken = field == 1 || field == 30;
            for (int action = 1; action <= 5; action++) {
                action(0, action, field, 1, taken);
            }
            action(0, 4, 1, field, taken);
        }
    }

    private static void countersOfActions() {
        Check.sentence("counter (of 2 b, 5 b, 9, 11, 12 a) .. is not there");
        for (int counter : new int[] {LEAST, -1, 0, 7, 8, GREATEST}) {
            boolean taken = counter == 0 || counter == 7;
            action(0, 2, 1, counter, taken);
            action(0, 5, 1, counter, taken);
            action(0, 9, counter, 1, taken);
            action(0, 11, counter, 1, taken);
            action(0, 12, counter, 1, taken);
        }
    }

    private static void expressionsOfActions() {
        Check.sentence("expression (of 6, 7, 8 a) .. is not there");
        for (int k : new int[] {LEAST, -1, 0, 5, 6, GREATEST}) {
            for (int action = 6; action <= 8; action++) {
                action(0, action, k, 1, k == 0 || k == 5);
            }
        }
    }

    private static void textsOfActions() {
        Check.sentence("or text (of 6, 7 b) is not there");
        for (int k : new int[] {LEAST, -1, 0, 5, 6, GREATEST}) {
            action(0, 6, 1, k, k == 0 || k == 5);
            action(0, 7, 1, k, k == 0 || k == 5);
        }
    }

    private static void whatActionsDoNotLookAt() {
        Check.sentence("a of 0, 10 and b of 0, 1, 3, 8 to 12 are no field, counter, expression or text");
        for (int number : new int[] {LEAST, -1, 0, 31, GREATEST}) {
            action(0, 0, number, number, true);
            action(0, 10, number, number, true);
            for (int action : new int[] {1, 3, 8, 9, 11, 12}) {
                action(0, action, 1, number, true);
            }
        }
    }

    private static LineRules withTen() {
        LineRules x = new LineRules();
        x.rule(0, 0, 0);
        x.rule(0, 0, 0);
        for (int n = 1; n <= 10; n++) {
            Check.due("action " + n, x.action(1, 0, 0, 0), n);
        }
        return x;
    }

    private static void atMostTen() {
        Check.sentence("IllegalStateException: there are ten");
        LineRules x = withTen();
        for (int action = 0; action <= 12; action++) {
            int number = action;
            Check.refused("an eleventh, action " + action, Check.STATE, () -> x.action(1, number, 1, 1));
        }
        Check.line(x, "a");
        Check.due("ten are done", Check.printed(x), "a\n".repeat(10));
        Check.due("the other rule's first", x.action(0, 0, 0, 0), 1);
        x.rule(0, 0, 0);
        Check.due("a new rule's first", x.action(2, 0, 0, 0), 1);
    }

    private static void noSuchActionComesFirst() {
        Check.sentence("action: NoSuchElementException, then IllegalStateException");
        LineRules x = withTen();
        Check.refused("rule 2", Check.NO_SUCH, () -> x.action(2, 0, 0, 0));
        Check.refused("action 13", Check.NO_SUCH, () -> x.action(1, 13, 1, 1));
        Check.refused("action -1", Check.NO_SUCH, () -> x.action(1, -1, 1, 1));
        Check.refused("field 31", Check.NO_SUCH, () -> x.action(1, 1, 31, 1));
        Check.refused("field 0 of 4", Check.NO_SUCH, () -> x.action(1, 4, 1, 0));
        Check.refused("counter 8", Check.NO_SUCH, () -> x.action(1, 2, 1, 8));
        Check.refused("expression 6", Check.NO_SUCH, () -> x.action(1, 8, 6, 1));
        Check.refused("text 6", Check.NO_SUCH, () -> x.action(1, 7, 1, 6));
    }

    private static void allRulesGo() {
        Check.sentence("All rules go: how many there were");
        LineRules x = new LineRules();
        Check.due("forget without rules", x.forget(), 0);
        LineRules one = Check.withAction(0, 0, 0);
        Check.due("forget one", one.forget(), 1);
        Check.due("forget again", one.forget(), 0);
        Check.refused("an action of it", Check.NO_SUCH, () -> one.action(0, 0, 0, 0));
        Check.due("a line", Check.line(one, "a"), 0);
        Check.due("nothing is printed", one.count(4), 0);
        LineRules full = withTwelve();
        for (int n = 0; n < 10; n++) {
            full.action(0, 0, 0, 0);
        }
        Check.due("forget twelve", full.forget(), 12);
        Check.due("rules behind it", full.count(1), 0);
        Check.due("a rule in its place", full.rule(6, 5, 0), 0);
        Check.due("it has no actions", full.action(0, 0, 0, 0), 1);
        Check.due("it has its own pattern", Check.line(full, "a"), 0);
    }
}
