/** The boundary cases of signs and of the pad: promises 2 and 3. */
public final class BoundaryPadTest {
    public static void main(String[] args) {
        everySignIsTaken();
        theLowestEightBitsComeFirst();
        zeroIsNone();
        atMostAHundredAndTwenty();
        wouldBeMore();
        refusedFeedLeavesThePad();
        clearAnswersHowMany();
        Check.finish();
    }

    private static void everySignIsTaken() {
        Check.sentence("SIGNS are 1 .. 255");
        for (int from = 1; from <= 255; from += 85) {
            LineRules x = new LineRules();
            for (int sign = from; sign < from + 85; sign++) {
                Check.due("feed of sign " + sign, x.feed(0, 0, sign, 0, 0), sign - from + 1);
            }
            x.line();
            for (int j = 0; j < 85; j++) {
                Check.due("sign " + j + " from " + from, x.sign(0, j), from + j);
            }
        }
    }

    private static void fed(int a, int b, int c, int d, int e, String want) {
        LineRules x = new LineRules();
        Check.due("feed of " + want, x.feed(a, b, c, d, e), want.length());
        x.line();
        Check.due("the pad", Check.row(x, 0), want);
    }

    private static void theLowestEightBitsComeFirst() {
        Check.sentence("of a, then of b, and so on, the lowest eight bits first");
        fed(0x04030201, 0, 0, 0, 0, "\u0001\u0002\u0003\u0004");
        fed(0x61, 0x62, 0x63, 0x64, 0x65, "abcde");
        fed(0x64636261, 0x68676665, 0x6c6b6a69, 0x706f6e6d, 0x74737271, "abcdefghijklmnopqrst");
        fed(-1, 0, 0, 0, 0, "\u00ff\u00ff\u00ff\u00ff");
        fed(Integer.MIN_VALUE, 0, 0, 0, 0, "\u0080");
        fed(Integer.MAX_VALUE, 0, 0, 0, 0, "\u00ff\u00ff\u00ff\u007f");
        fed(-256, 0, 0, 0, 0, "\u00ff\u00ff\u00ff");
    }

    private static void zeroIsNone() {
        Check.sentence("0 is none");
        fed(0, 0, 0, 0, 0, "");
        fed(0, 0, 0, 0, 0x61, "a");
        fed(0x61000000, 0x00620000, 0x00006300, 0x64, 0, "abcd");
        fed(0x62000061, 0, 0, 0x64000063, 0, "abcd");
        LineRules x = Check.feed(new LineRules(), "a".repeat(120));
        Check.due("none behind a full pad", x.feed(0, 0, 0, 0, 0), 120);
    }

    private static void atMostAHundredAndTwenty() {
        Check.sentence("THE PAD is a row of at most 120 signs");
        LineRules x = new LineRules();
        for (int n = 1; n <= 6; n++) {
            Check.due("feed " + n, x.feed(-1, -1, -1, -1, -1), 20 * n);
        }
        Check.due("signs of the pad", x.count(0), 120);
        x.line();
        Check.due("the line of a full pad", Check.row(x, 0), "\u00ff".repeat(120));
        Check.due("a full pad, sign by sign", fullBySigns().count(0), 120);
    }

    private static LineRules fullBySigns() {
        LineRules x = new LineRules();
        for (int n = 1; n <= 120; n++) {
            Check.due("sign by sign", x.feed(0, 0, 0, 0x6100, 0), n);
        }
        Check.refused("sign 121", Check.STATE, () -> x.feed(0, 0, 0, 0x6100, 0));
        return x;
    }

    private static void wouldBeMore() {
        Check.sentence("IllegalStateException: there would be more than 120");
        for (int had = 100; had <= 120; had++) {
            for (int more = 1; more <= 20; more++) {
                LineRules x = Check.feed(new LineRules(), "a".repeat(had));
                String text = "b".repeat(more);
                Object got = Check.answer(() -> x.feed(Check.word(text, 0), Check.word(text, 4), Check.word(text, 8),
                    Check.word(text, 12), Check.word(text, 16)));
                Object want = had + more > 120 ? "throws IllegalStateException" : had + more;
                Check.due(more + " behind " + had, got, want);
            }
        }
        LineRules full = Check.feed(new LineRules(), "a".repeat(120));
        for (int shift = 0; shift < 32; shift++) {
            int bit = 1 << shift;
            Check.refused("one bit in a", Check.STATE, () -> full.feed(bit, 0, 0, 0, 0));
            Check.refused("one bit in b", Check.STATE, () -> full.feed(0, bit, 0, 0, 0));
            Check.refused("one bit in c", Check.STATE, () -> full.feed(0, 0, bit, 0, 0));
            Check.refused("one bit in d", Check.STATE, () -> full.feed(0, 0, 0, bit, 0));
            Check.refused("one bit in e", Check.STATE, () -> full.feed(0, 0, 0, 0, bit));
        }
    }

    private static void refusedFeedLeavesThePad() {
        Check.sentence("Such a call changes nothing: feed");
        LineRules x = Check.feed(new LineRules(), "a".repeat(118));
        Check.refused("three behind 118", Check.STATE, () -> x.feed(0x62, 0x63, 0x64, 0, 0));
        Check.due("the pad", x.count(0), 118);
        Check.due("two that have room", x.feed(0x7978, 0, 0, 0, 0), 120);
        x.line();
        Check.due("the line", Check.row(x, 0), "a".repeat(118) + "xy");
    }

    private static void clearAnswersHowMany() {
        Check.sentence("The pad is empty: how many signs it had");
        LineRules x = new LineRules();
        Check.due("clear of a new pad", x.clear(), 0);
        x.feed(0, 0, 0, 0, 255);
        Check.due("clear of one sign", x.clear(), 1);
        Check.due("clear behind it", x.clear(), 0);
        Check.feed(x, "a".repeat(120));
        Check.due("clear of a full pad", x.clear(), 120);
        Check.due("signs behind it", x.count(0), 0);
        Check.due("lines behind it", x.count(2), 0);
        Check.feed(x, "b".repeat(120));
        x.line();
        Check.due("a full pad anew", Check.row(x, 0), "b".repeat(120));
        Check.due("clear behind a line", x.clear(), 0);
    }
}
