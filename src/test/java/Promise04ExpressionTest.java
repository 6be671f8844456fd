public final class Promise04ExpressionTest {
    public static void main(String[] args) {
        padBecomesExpression();
        faultsChangeNothing();
        wrongNumbers();
        atMostSixty();
        faultsOfAtoms();
        faultsOfGroups();
        faultsOfItems();
        noFaults();
        Check.finish();
    }

    private static void padBecomesExpression() {
        for (int k = 0; k < 6; k++) {
            LineRules x = Check.feed(new LineRules(), "b+");
            Check.due("expression " + k, x.expression(k), 0);
            Check.due("the pad", x.count(0), 0);
            Check.feed(x, "abbc");
            for (int other = 0; other < 6; other++) {
                Check.due("find " + other + " of " + k, x.find(other, 0), other == k ? 1 : 0);
            }
        }
        LineRules x = Check.withExpression("a");
        Check.expression(x, 0, "c");
        Check.due("the newer one", Check.feed(x, "abc").find(0, 0), 2);
        x.clear();
        Check.expression(x, 0, "");
        Check.due("the empty one", Check.feed(x, "abc").find(0, 1), 1);
    }

    private static void faultsChangeNothing() {
        LineRules x = Check.withExpression("b");
        Check.due("fault", Check.feed(x, "ab(").expression(0), 4);
        Check.due("the pad", x.count(0), 3);
        Check.due("the expression", x.find(0, 0), 1);
        Check.due("the same fault", x.expression(1), 4);
        Check.due("the pad's end", Check.feed(x, ")").expression(0), 0);
        Check.due("ab", Check.feed(x, "bab").find(0, 0), 1);
    }

    private static void wrongNumbers() {
        LineRules x = Check.feed(new LineRules(), "a".repeat(61));
        for (int k : new int[] {-1, 6, Integer.MIN_VALUE, Integer.MAX_VALUE}) {
            Check.refused("expression " + k, Check.NO_SUCH, () -> x.expression(k));
        }
        Check.due("the pad", x.count(0), 61);
    }

    private static void atMostSixty() {
        LineRules x = Check.feed(new LineRules(), "*" + "a".repeat(60));
        Check.refused("61 signs", Check.STATE, () -> x.expression(5));
        Check.due("the pad", x.clear(), 61);
        Check.due("60 signs", Check.feed(x, "a".repeat(60)).expression(5), 0);
        Check.due("in 61", Check.feed(x, "b" + "a".repeat(60)).find(5, 0), 1);
        Check.due("its end", x.end(), 61);
        x.clear();
        Check.due("in 59", Check.feed(x, "a".repeat(59)).find(5, 0), -1);
        x.clear();
        Check.due("60 opened", Check.feed(x, "()".repeat(29) + "((").expression(0), 61);
    }

    private static void fault(String text, int place) {
        Check.due("fault of " + text, Check.feed(new LineRules(), text).expression(0), place + 1);
    }

    private static void faultsOfAtoms() {
        fault("*", 0);
        fault("+a", 0);
        fault("?", 0);
        fault("a|*", 2);
        fault("a||+", 3);
        fault("]", 0);
        fault("a]", 1);
        fault("\\", 1);
        fault("a\\", 2);
        fault("a*\\", 3);
    }

    private static void faultsOfGroups() {
        fault(")", 0);
        fault("a)", 1);
        fault("(a))", 3);
        fault("(", 1);
        fault("(a", 2);
        fault("(a|", 3);
        fault("((a)", 4);
        fault("(*)", 1);
        fault("(a]", 2);
        fault("(\\)", 3);
        fault("(".repeat(11), 10);
        fault("(".repeat(10) + "a|b(", 13);
        fault("(".repeat(12) + ")".repeat(12), 10);
        fault("(".repeat(11) + "]", 10);
        fault("(".repeat(10) + "]", 10);
    }

    private static void faultsOfItems() {
        fault("[", 1);
        fault("[]", 1);
        fault("[]a]", 1);
        fault("[^", 2);
        fault("[^]", 2);
        fault("[^]a]", 2);
        fault("[a", 2);
        fault("[a-", 3);
        fault("[a-]", 3);
        fault("[-a]", 1);
        fault("[^-a]", 2);
        fault("[a--]", 3);
        fault("[a-b-c]", 4);
        fault("[a-\\]", 3);
        fault("[\\]]", 1);
        fault("[a\\]", 2);
        fault("[z-a]", 3);
        fault("[a-zb-a", 6);
        fault("[b-a-", 3);
        fault("[a-^]", 3);
        fault("[a]]", 3);
    }

    private static void noFaults() {
        String[] texts = {
            "", "|", "||", "()", "(|)", "()*", "a**", "a*+?", "^", "$", "^*$+", "(^|$)?", ".", "\\\\", "\\)", "\\*+",
            "[^^]", "[a^]", "[[]", "[.*+?$()|]", "[a-a]", "[A-^]", "[^a-z0-9_]", "[(]", "-", "a-b", "\u0001", "\u00ff",
            "[\u0001-\u00ff]", "(".repeat(10) + ")".repeat(10), "(".repeat(10) + "[(]\\(" + ")".repeat(10),
            "((((((((((a)b)()c)d)e)f)g)h)i)j)()", "}{", "\n",
            "|".repeat(60), "a" + "?".repeat(59), "^$".repeat(30), "()".repeat(30), "[" + "a".repeat(58) + "]",
        };
        for (String text : texts) {
            Check.expression(new LineRules(), 0, text);
        }
    }
}
