/** The boundary cases of what is printed and of what is counted: promises 14 and 17. */
public final class BoundaryPrintedTest {
    public static void main(String[] args) {
        aLineEndBehindIt();
        thereIsNone();
        fifteenHundredAreKept();
        oneIsNotKeptAnyMore();
        manyAreNotKeptAnyMore();
        oneLinePrintsMoreThanIsKept();
        countedInAll();
        noneOfThese();
        Check.finish();
    }

    private static void refused(LineRules x, int i) {
        Check.refused("printed(" + i + ")", Check.NO_SUCH, () -> x.printed(i));
    }

    private static void aLineEndBehindIt() {
        Check.sentence("What is printed has a line end (10) behind it");
        LineRules x = Check.withAction(0, 0, 0);
        x.line();
        Check.due("signs of an empty line", x.count(4), 1);
        Check.due("its line end", x.printed(0), 10);
        Check.line(x, "a\n");
        Check.due("signs then", x.count(4), 4);
        Check.due("a line with a line end", Check.printed(x), "\na\n\n");
        x.forget();
        x.rule(0, 0, 0);
        x.action(0, 1, 2, 0);
        x.action(0, 8, 0, 0);
        x.action(0, 9, 0, 0);
        Check.line(x, "a \u00ff");
        Check.due("each piece", Check.printed(x), "\na\n\n\u00ff\n\n0\n");
        x.forget();
        x.rule(0, 0, 0);
        x.action(0, 0, 0, 0);
        Check.line(x, "b".repeat(120));
        Check.due("behind a full line", x.printed(x.count(4) - 1), 10);
    }

    private static void thereIsNone() {
        Check.sentence("NoSuchElementException: there is none");
        LineRules x = Check.withAction(0, 0, 0);
        for (int i : new int[] {Integer.MIN_VALUE, -1, 0, 1, Integer.MAX_VALUE}) {
            refused(x, i);
        }
        Check.line(x, "ab");
        for (int i : new int[] {Integer.MIN_VALUE, -1500, -1, 3, 1500, Integer.MAX_VALUE}) {
            refused(x, i);
        }
        Check.due("the first", x.printed(0), 97);
        Check.due("the last", x.printed(2), 10);
    }

    /** Prints lines of a hundred signs with their line ends: the first "aaa..", then "bbb.." and so on. */
    private static LineRules printing(int lines) {
        LineRules x = Check.withAction(0, 0, 0);
        for (int n = 0; n < lines; n++) {
            Check.line(x, String.valueOf((char) ('a' + n)).repeat(99));
        }
        Check.due("signs printed", x.count(4), 100 * lines);
        return x;
    }

    private static void fifteenHundredAreKept() {
        Check.sentence("(the latest 1500 are kept): all of 1500");
        LineRules x = printing(15);
        Check.due("sign 0", x.printed(0), 'a' + 0);
        Check.due("sign 98", x.printed(98), 'a' + 0);
        Check.due("sign 99", x.printed(99), 10);
        Check.due("sign 100", x.printed(100), 'b' + 0);
        Check.due("sign 1498", x.printed(1498), 'a' + 14);
        Check.due("sign 1499", x.printed(1499), 10);
        refused(x, 1500);
    }

    private static void oneIsNotKeptAnyMore() {
        Check.sentence("or it is not kept any more: the first of 1501");
        LineRules x = printing(15);
        x.line();
        Check.due("signs printed", x.count(4), 1501);
        refused(x, 0);
        Check.due("sign 1", x.printed(1), 'a' + 0);
        Check.due("sign 99", x.printed(99), 10);
        Check.due("sign 1500", x.printed(1500), 10);
        refused(x, 1501);
    }

    private static void manyAreNotKeptAnyMore() {
        Check.sentence("or it is not kept any more: all but the latest 1500");
        LineRules x = printing(25);
        for (int i : new int[] {-1, 0, 1, 998, 999}) {
            refused(x, i);
        }
        for (int n = 10; n < 25; n++) {
            Check.due("the first sign of line " + n, x.printed(100 * n), 'a' + n);
            Check.due("the last sign of line " + n, x.printed(100 * n + 98), 'a' + n);
            Check.due("the line end of line " + n, x.printed(100 * n + 99), 10);
        }
        refused(x, 2500);
    }

    private static void oneLinePrintsMoreThanIsKept() {
        Check.sentence("(the latest 1500 are kept): of one line that prints 14520");
        LineRules x = new LineRules();
        for (int r = 0; r < 12; r++) {
            x.rule(0, 0, 0);
            for (int n = 0; n < 10; n++) {
                x.action(r, 0, 0, 0);
            }
        }
        Check.due("rules", Check.line(x, "y".repeat(119) + "z"), 12);
        Check.due("signs printed", x.count(4), 14520);
        refused(x, 13019);
        Check.due("the first that is kept", x.printed(13020), 'y' + 0);
        Check.due("a line end", x.printed(14519 - 121), 10);
        Check.due("the last but one", x.printed(14518), 'z' + 0);
        Check.due("the last", x.printed(14519), 10);
        refused(x, 14520);
    }

    private static void countedInAll() {
        Check.sentence(
            "0 signs of the pad, 1 rules, 2 lines, 3 fields of the latest line, 4 signs printed in all, 5 keys");
        LineRules x = new LineRules();
        for (int what = 0; what <= 5; what++) {
            Check.due("count(" + what + ") at first", x.count(what), 0);
        }
        x.rule(0, 0, 0);
        x.action(0, 0, 0, 0);
        x.action(0, 3, 1, 1);
        x.action(0, 4, 30, 1);
        x.rule(6, 30, 0);
        Check.line(x, "ab");
        Check.line(x, "ab c");
        Check.line(x, "d");
        Check.feed(x, "pads");
        int[] want = {4, 2, 3, 30, 10, 2};
        for (int what = 0; what <= 5; what++) {
            Check.due("count(" + what + ")", x.count(what), want[what]);
        }
        x.forget();
        x.line();
        int[] then = {0, 0, 4, 1, 10, 2};
        for (int what = 0; what <= 5; what++) {
            Check.due("count(" + what + ") then", x.count(what), then[what]);
        }
    }

    private static void noneOfThese() {
        Check.sentence("IllegalArgumentException: none of these");
        LineRules x = new LineRules();
        for (int what : new int[] {Integer.MIN_VALUE, -2, -1, 6, 7, Integer.MAX_VALUE}) {
            Check.refused("count(" + what + ")", Check.ARGUMENT, () -> x.count(what));
        }
    }
}
