/** The boundary cases of the texts of expressions and of their faults: promise 4. */
public final class BoundaryExpressionTest {
    public static void main(String[] args) {
        expressionsAreSix();
        atMostSixtySigns();
        noSuchExpressionComesFirst();
        sequencesMayBeEmpty();
        repeatsNeedAnAtom();
        everySignAlone();
        everySignBehindABackslash();
        everySignAsAnItem();
        everySignBehindAnItem();
        everySignOfARange();
        aHatDirectlyBehindTheBracket();
        itemsAreClosed();
        groupsAreClosed();
        inTenOthers();
        theFirstFaultCounts();
        faultsAtTheEnd();
        nothingChangesAtAFault();
        nothingIsLeftOfAFault();
        nothingIsLeftOfOlderOnes();
        emptyPadBecomesTheEmptyExpression();
        Check.finish();
    }

    private static void fault(String text, int place) {
        LineRules x = Check.feed(new LineRules(), text);
        Check.due("expression " + text, x.expression(0), place + 1);
        Check.due("the pad behind " + text, x.count(0), text.length());
    }

    private static void none(String text) {
        LineRules x = Check.feed(new LineRules(), text);
        Check.due("expression " + text, x.expression(0), 0);
        Check.due("the pad behind " + text, x.count(0), 0);
    }

    private static void expressionsAreSix() {
        Check.sentence("EXPRESSIONS 0 .. 5");
        for (int k = -2; k <= 8; k++) {
            LineRules x = Check.feed(new LineRules(), "a");
            int number = k;
            Object want = k < 0 || k > 5 ? "throws NoSuchElementException" : 0;
            Check.due("expression(" + k + ")", Check.answer(() -> x.expression(number)), want);
        }
    }

    private static void atMostSixtySigns() {
        Check.sentence("IllegalStateException: the pad has more than 60 signs");
        for (int length : new int[] {0, 1, 59, 60, 61, 62, 119, 120}) {
            LineRules x = Check.feed(new LineRules(), "a".repeat(length));
            Object want = length > 60 ? "throws IllegalStateException" : 0;
            Check.due(length + " signs", Check.answer(() -> x.expression(0)), want);
            Check.due("the pad behind " + length, x.count(0), length > 60 ? length : 0);
        }
        LineRules x = Check.feed(new LineRules(), ")" + "a".repeat(60));
        Check.refused("61 signs with a fault", Check.STATE, () -> x.expression(0));
        sixtySignsOfEachKind();
    }

    private static void sixtySignsOfEachKind() {
        none(".".repeat(60));
        none("^".repeat(60));
        none("$".repeat(60));
        none("|".repeat(60));
        none("\\\\".repeat(30));
        none("()".repeat(30));
        none("[a]".repeat(20));
        none("a".repeat(30) + "*".repeat(30));
        none("a" + "+".repeat(59));
        none("[^" + "b".repeat(57) + "]");
        none("[" + "a-z".repeat(19) + "b]");
        none("(|)".repeat(20));
        none("a|".repeat(30));
        none("(a*)+".repeat(12));
    }

    private static void noSuchExpressionComesFirst() {
        Check.sentence("NoSuchElementException; IllegalStateException, in this order");
        LineRules x = Check.feed(new LineRules(), "a".repeat(61));
        Check.refused("expression(6) of 61 signs", Check.NO_SUCH, () -> x.expression(6));
        Check.refused("expression(-1) of 61 signs", Check.NO_SUCH, () -> x.expression(-1));
        Check.refused("expression(5) of 61 signs", Check.STATE, () -> x.expression(5));
        LineRules faulty = Check.feed(new LineRules(), "*");
        Check.refused("expression(6) of a fault", Check.NO_SUCH, () -> faulty.expression(6));
    }

    private static void sequencesMayBeEmpty() {
        Check.sentence("alternation = sequence { \"|\" sequence }.  sequence = { piece }.");
        for (String text : new String[] {"", "|", "||", "a|", "|a", "a||b", "()", "(|)", "(a|)", "(|a)", "()|()"}) {
            none(text);
        }
    }

    private static void repeatsNeedAnAtom() {
        Check.sentence("piece = atom { \"*\" | \"+\" | \"?\" }.");
        for (String repeat : new String[] {"*", "+", "?"}) {
            fault(repeat, 0);
            fault("a|" + repeat, 2);
            fault("(" + repeat + ")", 1);
            fault("(a|" + repeat + ")", 3);
            for (String atom : new String[] {".", "^", "$", "\\*", "(a)", "()", "[*]", "a"}) {
                none(atom + repeat);
                none(atom + repeat + "*");
                none(atom + repeat + "+?");
            }
        }
    }

    private static void everySignAlone() {
        Check.sentence("atom = .. any sign but | * + ? . ^ $ \\ ( ) [ ]");
        for (char sign = 1; sign <= 255; sign++) {
            if ("*+?)]".indexOf(sign) >= 0) {
                fault("" + sign, 0);
                fault("a|" + sign, 2);
            } else if ("\\([".indexOf(sign) >= 0) {
                fault("" + sign, 1);
                fault("a|" + sign, 3);
            } else {
                none("" + sign);
                none("a" + sign + "b");
            }
        }
    }

    private static void everySignBehindABackslash() {
        Check.sentence("\"\\\" any sign");
        for (char sign = 1; sign <= 255; sign++) {
            none("\\" + sign);
            none("(\\" + sign + ")*");
        }
        fault("\\", 1);
        fault("\\\\\\", 3);
    }

    private static void everySignAsAnItem() {
        Check.sentence("\"[\" [ \"^\" ] item { item } \"]\": its signs being any but ], \\ and -");
        for (char sign = 1; sign <= 255; sign++) {
            if ("]\\-".indexOf(sign) >= 0) {
                fault("[" + sign + "a]", 1);
                fault("[^" + sign + "a]", 2);
            } else {
                none("[" + sign + "a]");
                none("[^" + sign + "]");
            }
        }
    }

    private static void everySignBehindAnItem() {
        Check.sentence("item { item } \"]\"");
        for (char sign = 1; sign <= 255; sign++) {
            if (sign == '\\') {
                fault("[a" + sign + "]", 2);
            } else if (sign == '-' || sign == ']') {
                fault("[a" + sign + "]", 3);
            } else {
                none("[a" + sign + "]");
            }
        }
    }

    private static void everySignOfARange() {
        Check.sentence("item = sign [ \"-\" sign ], .. the first one not greater than the second");
        for (char sign = 1; sign <= 255; sign++) {
            boolean no = "]\\-".indexOf(sign) >= 0;
            if (no || sign < 'M') {
                fault("[M-" + sign + "]", 3);
            } else {
                none("[M-" + sign + "]");
            }
            if (!no && sign != '^') {
                none("[" + sign + "-" + sign + "]");
                none("[" + sign + "-\u00ff]");
                none("[\u0001-" + sign + "]");
            }
        }
        fault("[b-a]", 3);
        fault("[ab-a]", 4);
        fault("[a-b-c]", 4);
        fault("[a-bc-b]", 6);
        none("[a-bb-c]");
        none("[a-b^-a]");
    }

    private static void aHatDirectlyBehindTheBracket() {
        Check.sentence("A \"^\" directly behind \"[\" is no item's");
        fault("[^]", 2);
        fault("[^-a]", 2);
        fault("[^", 2);
        none("[^^]");
        none("[^^-a]");
        none("[a^]");
        none("[A-^]");
        fault("[a-^]", 3);
        fault("[^b-^]", 4);
    }

    private static void itemsAreClosed() {
        Check.sentence("\"[\" [ \"^\" ] item { item } \"]\"");
        fault("[]", 1);
        fault("[", 1);
        fault("[a", 2);
        fault("[a-", 3);
        fault("[a-b", 4);
        fault("[a(", 3);
        fault("[a])", 3);
        fault("[a]]", 3);
        fault("]", 0);
        fault("a]", 1);
        none("[[]");
        none("[()|*+?.$]");
    }

    private static void groupsAreClosed() {
        Check.sentence("\"(\" alternation \")\"");
        fault("(", 1);
        fault("(a", 2);
        fault("(a|", 3);
        fault("(()", 3);
        fault(")", 0);
        fault("a)", 1);
        fault("())", 2);
        fault("(a\\)", 4);
        fault("(a[)]", 5);
    }

    private static void inTenOthers() {
        Check.sentence("also a \"(\" in ten others");
        for (int depth = 1; depth <= 10; depth++) {
            none("(".repeat(depth) + "a" + ")".repeat(depth));
            fault("(".repeat(depth), depth);
        }
        for (int depth = 11; depth <= 30; depth++) {
            fault("(".repeat(depth) + ")".repeat(depth), 10);
        }
        fault("(".repeat(10) + "a*|b(", 14);
        fault("(".repeat(10) + ")(()", 12);
        none("(".repeat(10) + ")()" + ")".repeat(9) + "(".repeat(10) + ")".repeat(10));
        none("(".repeat(10) + "\\([(]" + ")".repeat(10));
        none("()".repeat(11));
        none("(".repeat(9) + "()".repeat(11) + ")".repeat(9));
    }

    private static void theFirstFaultCounts() {
        Check.sentence("A FAULT is the first sign at which the text is no beginning of an alternation any more");
        fault("a*b+?c]d)e", 6);
        fault("ab)*[z-a]", 2);
        fault("[z-a]*)", 3);
        fault("a(b|*c))", 4);
        fault("(".repeat(11) + "]", 10);
        fault("(".repeat(10) + "]", 10);
        fault("[b-a", 3);
        fault("(*", 1);
    }

    private static void faultsAtTheEnd() {
        Check.sentence("(the text's length at its end)");
        fault("a".repeat(59) + "(", 60);
        fault("a".repeat(59) + "\\", 60);
        fault("a".repeat(59) + "[", 60);
        fault("[" + "a".repeat(59), 60);
        fault("(" + "a".repeat(59), 60);
        fault("a".repeat(59) + ")", 59);
        fault("a".repeat(59) + "]", 59);
        fault("a".repeat(58) + "|*", 59);
    }

    private static void nothingChangesAtAFault() {
        Check.sentence("or, at a fault, its place + 1, and nothing changes");
        LineRules x = Check.withExpression("b");
        Check.due("a fault", Check.feed(x, "[ab").expression(0), 4);
        Check.due("the old expression in the pad", x.find(0, 0), 2);
        Check.due("its end", x.end(), 3);
        Check.due("the same fault", x.expression(0), 4);
        Check.due("a new expression", Check.feed(x, "]").expression(0), 0);
        Check.due("it is found", Check.feed(x, "cab").find(0, 0), 1);
        LineRules unset = new LineRules();
        Check.due("a fault of the first expression", Check.feed(unset, "a)").expression(3), 2);
        Check.due("the empty expression stays", unset.find(3, 1), 1);
        Check.due("the text goes on", Check.feed(unset, "b").line(), 0);
        Check.due("the pad stays", Check.row(unset, 0), "a)b");
    }

    private static void nothingIsLeftOfAFault() {
        Check.sentence("at a fault, .. nothing changes: nothing of it is in the next expression");
        for (String faulty : new String[] {"ab(", "[ab", ".*)", "a|b|)", "(a|b)*\\", "a".repeat(59) + "("}) {
            LineRules x = new LineRules();
            Check.due("a fault of " + faulty, Check.feed(x, faulty).expression(0) > 0, true);
            x.clear();
            Check.expression(x, 0, "cd");
            Check.due("found behind " + faulty, Check.feed(x, "abcacbccd").find(0, 0), 7);
            Check.due("its end", x.end(), 9);
        }
    }

    private static void nothingIsLeftOfOlderOnes() {
        Check.sentence("The pad becomes expression k: nothing of what it was is left");
        LineRules x = new LineRules();
        String[] texts = {".*", "[^a]", "a|b", "$", "^", "(ab)+", "", "q", "c"};
        int[] begins = {0, 1, 0, 4, 0, 0, 0, -1, 3};
        int[] ends = {4, 2, 1, 4, 0, 2, 0, -1, 4};
        for (int n = 0; n < 3 * texts.length; n++) {
            int k = n % 2;
            int t = n % texts.length;
            Check.expression(x, k, texts[t]);
            Check.due("found by " + texts[t], Check.feed(x, "abac").find(k, 0), begins[t]);
            Check.due("its end", x.end(), ends[t]);
            x.clear();
        }
    }

    private static void emptyPadBecomesTheEmptyExpression() {
        Check.sentence("The pad becomes expression k, and is empty: 0");
        LineRules x = Check.withExpression("q");
        Check.due("not found", Check.feed(x, "ab").find(0, 0), -1);
        x.clear();
        Check.due("expression of the empty pad", x.expression(0), 0);
        Check.due("found", Check.feed(x, "ab").find(0, 1), 1);
        Check.due("its end", x.end(), 1);
    }
}
