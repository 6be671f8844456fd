public final class Promise02FeedTest {
    public static void main(String[] args) {
        signsComeInOrder();
        zerosAreNone();
        highBitsAreASign();
        atMostAHundredAndTwenty();
        Check.finish();
    }

    private static void signsComeInOrder() {
        LineRules x = new LineRules();
        Check.due("feed", x.feed(0x64636261, 0x68676665, 0x6c6b6a69, 0x706f6e6d, 0x74737271), 20);
        Check.due("feed behind it", x.feed(0x75, 0x76, 0, 0, 0x77), 23);
        Check.due("count", x.count(0), 23);
        x.line();
        Check.due("the pad", Check.row(x, 0), "abcdefghijklmnopqrstuvw");
    }

    private static void zerosAreNone() {
        LineRules x = new LineRules();
        Check.due("no signs", x.feed(0, 0, 0, 0, 0), 0);
        Check.due("zeros between", x.feed(0x61006200, 0, 0x00630000, 0, 0x64000000), 4);
        x.line();
        Check.due("the pad", Check.row(x, 0), "bacd");
    }

    private static void highBitsAreASign() {
        LineRules x = new LineRules();
        Check.due("feed", x.feed(-1, 0x80000001, 0, 0, 0), 6);
        x.line();
        Check.due("the pad", Check.row(x, 0), "\u00ff\u00ff\u00ff\u00ff\u0001\u0080");
    }

    private static void atMostAHundredAndTwenty() {
        LineRules x = Check.feed(new LineRules(), "a".repeat(119));
        Check.refused("two more", Check.STATE, () -> x.feed(0, 0, 0, 0, 0x6262));
        Check.due("unchanged", x.count(0), 119);
        Check.due("one more", x.feed(0, 0, 0, 0, 0x62000000), 120);
        Check.refused("one too many", Check.STATE, () -> x.feed(0x63, 0, 0, 0, 0));
        for (int shift = 0; shift < 32; shift++) {
            int word = 1 << shift;
            Check.refused("a sign of one bit", Check.STATE, () -> x.feed(0, 0, word, 0, 0));
        }
        Check.due("none more", x.feed(0, 0, 0, 0, 0), 120);
        x.line();
        Check.due("the pad", Check.row(x, 0), "a".repeat(119) + "b");
        Check.due("feed after it", x.feed(-1, -1, -1, -1, -1), 20);
    }
}
