public final class Promise16KeyTest {
    public static void main(String[] args) {
        LineRules x = Check.withAction(3, 1, 7);
        refused(x, 0, -1);
        refused(x, 0, -2);
        Check.line(x, "ab\u00ff");
        Check.line(x, "ab");
        Check.line(x, "b");
        Check.line(x, "ab");
        Check.due("length of key 0", x.key(0, -1), 2);
        Check.due("int of key 0", x.key(0, -2), 14);
        Check.due("sign of key 0", x.key(0, 1), 98);
        Check.due("length of key 1", x.key(1, -1), 3);
        Check.due("int of key 1", x.key(1, -2), 7);
        Check.due("sign of key 1", x.key(1, 2), 255);
        Check.due("sign of key 2", x.key(2, 0), 98);
        refused(x, 0, 2);
        refused(x, 0, -3);
        refused(x, 0, Integer.MIN_VALUE);
        refused(x, 0, Integer.MAX_VALUE);
        refused(x, 3, -1);
        refused(x, -1, -1);
        refused(x, -1, -2);
        refused(x, Integer.MIN_VALUE, 0);
        refused(x, Integer.MAX_VALUE, 0);
        keysAreInOrder();
        atMostForty();
        longKeysAndIntsThatWrap();
        Check.finish();
    }

    private static void refused(LineRules x, int k, int j) {
        Check.refused("key " + k + " " + j, Check.NO_SUCH, () -> x.key(k, j));
    }

    private static void keysAreInOrder() {
        LineRules x = Check.withAction(3, 1, 1);
        x.separator(',');
        String[] texts = {"b", "\u00ff", "ab", "", "a", "abc", "B", "aa", "b ", "\u0001", "a", "10", "9"};
        for (String text : texts) {
            Check.line(x, text);
        }
        Check.due("the table", Check.table(x), "=1 \u0001=1 10=1 9=1 B=1 a=2 aa=1 ab=1 abc=1 b=1 b =1 \u00ff=1 ");
        Check.due("length of the empty key", x.key(0, -1), 0);
        refused(x, 0, 0);
    }

    private static void atMostForty() {
        LineRules x = Check.withAction(3, 1, 1);
        for (int n = 39; n >= 0; n--) {
            Check.line(x, "k" + (10 + n));
        }
        Check.due("forty keys", x.count(5), 40);
        Check.line(x, "a");
        Check.line(x, "z");
        Check.line(x, "k30x");
        Check.line(x, "");
        Check.due("forty keys still", x.count(5), 40);
        Check.line(x, "k49");
        Check.due("int of an old one", x.key(39, -2), 2);
        for (int n = 0; n < 40; n++) {
            Check.due("key " + n, x.key(n, 1) * 10 + x.key(n, 2), '0' * 11 + 10 + n);
            Check.due("length " + n, x.key(n, -1), 3);
        }
        refused(x, 40, -1);
    }

    private static void longKeysAndIntsThatWrap() {
        LineRules x = Check.withAction(3, 1, Integer.MAX_VALUE);
        String text = "k".repeat(120);
        Check.line(x, text);
        Check.line(x, text);
        Check.line(x, text.substring(1));
        Check.due("the table", Check.table(x), text.substring(1) + "=2147483647 " + text + "=-2 ");
        x.forget();
        x.rule(0, 0, 0);
        x.action(0, 3, 1, 0);
        Check.line(x, "n");
        Check.due("a key that grows by 0", x.key(2, -2), 0);
    }
}
