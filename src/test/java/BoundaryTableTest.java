/** The boundary cases of the table and of its keys: promise 16. */
public final class BoundaryTableTest {
    public static void main(String[] args) {
        lessBySigns();
        lessByBeginning();
        aNewKeyHasZeroBefore();
        intsWrapRound();
        atMostForty();
        fortyKeysGoOnGrowing();
        fieldsThatAreNotThere();
        keysStay();
        longestKeys();
        noSuchKeyOrSign();
        Check.finish();
    }

    /** The keys of lines that are one field each, in the table's order. */
    private static void order(String want, String... lines) {
        LineRules x = Check.withAction(3, 1, 1);
        x.separator(2);
        for (String line : lines) {
            Check.line(x, line);
        }
        StringBuilder got = new StringBuilder();
        for (int k = 0; k < x.count(5); k++) {
            got.append('<');
            for (int j = 0; j < x.key(k, -1); j++) {
                got.append((char) x.key(k, j));
            }
            got.append('>');
        }
        Check.due("keys of " + String.join("|", lines), got.toString(), want);
    }

    private static void lessBySigns() {
        Check.sentence("A text is LESS than another one if it has the lesser sign where they differ first");
        order("<a><b>", "a", "b");
        order("<a><b>", "b", "a");
        order("<\u0001><\u007f><\u0080><\u00ff>", "\u0080", "\u00ff", "\u0001", "\u007f");
        order("<az><b>", "b", "az");
        order("<aab><ab>", "ab", "aab");
        order("<A><a>", "a", "A");
        order("<10><9>", "9", "10");
        order("<-1><-2>", "-2", "-1");
        order("<" + "k".repeat(119) + "a><" + "k".repeat(119) + "b>", "k".repeat(119) + "b", "k".repeat(119) + "a");
    }

    private static void lessByBeginning() {
        Check.sentence("or is its beginning");
        order("<a><ab>", "ab", "a");
        order("<><a>", "a", "");
        order("<><\u0001>", "\u0001", "");
        order("<a><a\u0001><aa><b>", "b", "a\u0001", "aa", "a");
        order("<" + "k".repeat(119) + "><" + "k".repeat(120) + ">", "k".repeat(120), "k".repeat(119));
        order("<a>", "a", "a", "a");
    }

    private static void aNewKeyHasZeroBefore() {
        Check.sentence("3 the int of the key that field a is grows by b (a new key has 0 before)");
        for (int by : new int[] {Integer.MIN_VALUE, -1, 0, 1, Integer.MAX_VALUE}) {
            LineRules x = Check.withAction(3, 1, by);
            Check.line(x, "a");
            Check.due("keys", x.count(5), 1);
            Check.due("its int", x.key(0, -2), by);
            Check.line(x, "b");
            Check.due("the int of another", x.key(1, -2), by);
        }
    }

    private static void intsWrapRound() {
        Check.sentence("THE TABLE has at most 40 KEYS, texts, each with an int: it wraps round");
        LineRules x = Check.withAction(3, 1, Integer.MAX_VALUE);
        Check.line(x, "a");
        Check.line(x, "a");
        Check.due("twice the greatest", x.key(0, -2), -2);
        LineRules least = Check.withAction(3, 1, Integer.MIN_VALUE);
        Check.line(least, "a");
        Check.line(least, "a");
        Check.due("twice the least", least.key(0, -2), 0);
        Check.due("the key stays", least.count(5), 1);
    }

    /** Forty keys "k10" .. "k49", ten a line, each with 1. */
    private static LineRules withForty() {
        LineRules x = new LineRules();
        x.rule(0, 0, 0);
        for (int field = 1; field <= 10; field++) {
            x.action(0, 3, field, 1);
        }
        for (int ten = 4; ten >= 1; ten--) {
            StringBuilder line = new StringBuilder();
            for (int one = 0; one < 10; one++) {
                line.append('k').append(ten).append(one).append(' ');
            }
            Check.line(x, line.toString());
        }
        Check.due("forty keys", x.count(5), 40);
        x.forget();
        x.rule(0, 0, 0);
        x.action(0, 3, 1, 5);
        return x;
    }

    private static void fortyAre(LineRules x, int grown) {
        for (int k = 0; k < 40; k++) {
            Check.due("first digit of key " + k, x.key(k, 1), '1' + k / 10);
            Check.due("second digit of key " + k, x.key(k, 2), '0' + k % 10);
            Check.due("int of key " + k, x.key(k, -2), k == grown ? 6 : 1);
        }
        Check.due("keys", x.count(5), 40);
        refused(x, 40, -1);
        refused(x, 40, -2);
    }

    private static void atMostForty() {
        Check.sentence("THE TABLE has at most 40 KEYS .. if there are 40, nothing");
        LineRules x = withForty();
        for (String line : new String[] {"a", "k30x", "k3", "z", "", "k5"}) {
            Check.due("a line with a new key", Check.line(x, line), 1);
            Check.due("keys", x.count(5), 40);
        }
        fortyAre(x, -1);
        LineRules almost = new LineRules();
        almost.rule(0, 0, 0);
        almost.action(0, 3, 1, 1);
        for (int k = 1; k <= 39; k++) {
            Check.line(almost, "" + (char) (64 + k));
        }
        Check.due("39 keys", almost.count(5), 39);
        Check.line(almost, "z");
        Check.due("the fortieth", almost.count(5), 40);
        Check.due("it is there", almost.key(39, 0), 122);
        Check.line(almost, "y");
        Check.due("no more", almost.count(5), 40);
    }

    private static void fortyKeysGoOnGrowing() {
        Check.sentence("if there are 40, nothing: for a new key alone");
        for (int k : new int[] {0, 17, 39}) {
            LineRules x = withForty();
            Check.line(x, "k" + (10 + k));
            fortyAre(x, k);
        }
    }

    private static void fieldsThatAreNotThere() {
        Check.sentence("(A field that is not there is empty.): as a key");
        LineRules x = Check.withAction(3, 2, 4);
        Check.line(x, "a");
        Check.due("keys", x.count(5), 1);
        Check.due("the empty key's length", x.key(0, -1), 0);
        Check.due("its int", x.key(0, -2), 4);
        refused(x, 0, 0);
        x.line();
        Check.due("its int behind an empty line", x.key(0, -2), 8);
        Check.due("keys then", x.count(5), 1);
    }

    private static void keysStay() {
        Check.sentence("THE TABLE .. KEYS, texts: no later line and no forget changes them");
        LineRules x = Check.withAction(3, 1, 1);
        Check.line(x, "key");
        x.forget();
        Check.line(x, "other");
        x.separator(',');
        Check.due("the table", Check.table(x), "key=1 ");
    }

    private static void longestKeys() {
        Check.sentence("Of the k-th key (from 0, by less): sign j; j = -1: its length");
        LineRules x = Check.withAction(3, 1, 1);
        Check.line(x, "a".repeat(119) + "z");
        Check.due("length", x.key(0, -1), 120);
        Check.due("the first sign", x.key(0, 0), 97);
        Check.due("the last sign", x.key(0, 119), 122);
        refused(x, 0, 120);
        Check.line(x, "b");
        Check.due("length of a short one", x.key(1, -1), 1);
        refused(x, 1, 1);
    }

    private static void refused(LineRules x, int k, int j) {
        Check.refused("key(" + k + ", " + j + ")", Check.NO_SUCH, () -> x.key(k, j));
    }

    private static void noSuchKeyOrSign() {
        Check.sentence("NoSuchElementException: there is no such key or sign");
        LineRules x = Check.withAction(3, 1, 1);
        for (int j = -3; j <= 1; j++) {
            refused(x, 0, j);
        }
        Check.line(x, "ab");
        for (int k : new int[] {Integer.MIN_VALUE, -1, 1, 39, 40, Integer.MAX_VALUE}) {
            for (int j = -3; j <= 1; j++) {
                refused(x, k, j);
            }
        }
        for (int j : new int[] {Integer.MIN_VALUE, -4, -3, 2, 120, Integer.MAX_VALUE}) {
            refused(x, 0, j);
        }
        Check.due("the last sign", x.key(0, 1), 98);
    }
}
