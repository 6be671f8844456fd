import java.util.function.ToIntFunction;

/** A call that is refused, or that tells a fault, changes nothing; and which exception comes first. */
public final class BoundaryRefusedTest {
    private static final int LEAST = Integer.MIN_VALUE;
    private static final int GREATEST = Integer.MAX_VALUE;

    public static void main(String[] args) {
        Check.sentence("EXCEPTIONS .. Such a call changes nothing");
        ofTheEmptyObject();
        padCalls();
        settingCalls();
        ruleCalls();
        actionCalls();
        readingCalls();
        faults();
        argumentsAreLookedAtFirst();
        refusedAgainAndAgain();
        Check.finish();
    }

    /** An object that has something of everything: 118 signs in the pad, twelve rules, one with ten actions. */
    private static LineRules busy() {
        LineRules x = new LineRules();
        for (int k = 0; k < 6; k++) {
            Check.feed(x, "" + (char) ('a' + k) + "+").expression(k);
            Check.feed(x, "t" + k).text(k);
        }
        x.separator(',');
        x.rule(0, 0, 0);
        for (int n = 0; n < 10; n++) {
            x.action(0, n % 4, 1 + n / 4, 3);
        }
        for (int r = 1; r < 12; r++) {
            x.rule(1, r % 6, 0);
            x.action(r, 11, r % 8, r);
        }
        Check.line(x, "1,b,-7");
        Check.line(x, "2,c");
        Check.feed(x, "abc,".repeat(29) + "de").find(1, 3);
        return x;
    }

    private static void refused(String what, Class<? extends RuntimeException> want, ToIntFunction<LineRules> call) {
        LineRules x = busy();
        Check.refused(what, want, () -> call.applyAsInt(x));
        Check.due("all behind " + what, Whole.of(x), Whole.of(busy()));
    }

    private static void noSuch(String what, ToIntFunction<LineRules> call) {
        refused(what, Check.NO_SUCH, call);
    }

    private static void ofTheEmptyObject() {
        LineRules x = new LineRules();
        Check.refused("action", Check.NO_SUCH, () -> x.action(0, 0, 0, 0));
        Check.refused("rule", Check.NO_SUCH, () -> x.rule(7, 0, 0));
        Check.refused("find", Check.NO_SUCH, () -> x.find(0, 1));
        Check.refused("sign", Check.NO_SUCH, () -> x.sign(0, 0));
        Check.refused("printed", Check.NO_SUCH, () -> x.printed(0));
        Check.refused("key", Check.NO_SUCH, () -> x.key(0, -1));
        Check.refused("counter", Check.NO_SUCH, () -> x.counter(8));
        Check.refused("text", Check.NO_SUCH, () -> x.text(6));
        Check.refused("expression", Check.NO_SUCH, () -> x.expression(6));
        Check.refused("separator", Check.ARGUMENT, () -> x.separator(0));
        Check.refused("count", Check.ARGUMENT, () -> x.count(6));
        Check.due("all behind them", Whole.of(x), Whole.of(new LineRules()));
    }

    private static void padCalls() {
        refused("feed of three", Check.STATE, x -> x.feed(0x616161, 0, 0, 0, 0));
        refused("feed of three in five", Check.STATE, x -> x.feed(1, 0, 1, 0, 1));
        refused("feed of twenty", Check.STATE, x -> x.feed(-1, -1, -1, -1, -1));
        for (int k : new int[] {LEAST, -1, 6, GREATEST}) {
            noSuch("expression(" + k + ")", x -> x.expression(k));
            noSuch("text(" + k + ")", x -> x.text(k));
            noSuch("find(" + k + ", 0)", x -> x.find(k, 0));
        }
        for (int k = 0; k < 6; k++) {
            int number = k;
            refused("expression(" + k + ") of 118 signs", Check.STATE, x -> x.expression(number));
        }
        for (int place : new int[] {LEAST, -1, 119, GREATEST}) {
            noSuch("find(0, " + place + ")", x -> x.find(0, place));
        }
    }

    private static void settingCalls() {
        for (int sign : new int[] {LEAST, -1, 0, 256, GREATEST}) {
            refused("separator(" + sign + ")", Check.ARGUMENT, x -> x.separator(sign));
        }
        for (int what : new int[] {LEAST, -1, 6, GREATEST}) {
            refused("count(" + what + ")", Check.ARGUMENT, x -> x.count(what));
        }
    }

    private static void ruleCalls() {
        for (int pattern = 0; pattern <= 6; pattern++) {
            int number = pattern;
            refused("a thirteenth rule of " + pattern, Check.STATE, x -> x.rule(number, 1, 1));
        }
        noSuch("rule(7, 1, 1)", x -> x.rule(7, 1, 1));
        noSuch("rule(-1, 1, 1)", x -> x.rule(-1, 1, 1));
        noSuch("rule(1, 6, 1)", x -> x.rule(1, 6, 1));
        noSuch("rule(2, 6, 1)", x -> x.rule(2, 6, 1));
        noSuch("rule(2, 1, 0)", x -> x.rule(2, 1, 0));
        noSuch("rule(2, 1, 31)", x -> x.rule(2, 1, 31));
        noSuch("rule(3, 31, 1)", x -> x.rule(3, 31, 1));
        noSuch("rule(4, 0, 1)", x -> x.rule(4, 0, 1));
    }

    private static void actionCalls() {
        for (int action = 0; action <= 12; action++) {
            int number = action;
            refused("an eleventh action " + action, Check.STATE, x -> x.action(0, number, 1, 1));
        }
        // rule 0 is full and rule 1 is not: in both the thing that is not there comes first
        for (int rule = 0; rule <= 1; rule++) {
            int r = rule;
            noSuch("action 13", x -> x.action(r, 13, 1, 1));
            noSuch("action -1", x -> x.action(r, -1, 1, 1));
            noSuch("field 0 of 1", x -> x.action(r, 1, 0, 1));
            noSuch("field 31 of 2", x -> x.action(r, 2, 31, 1));
            noSuch("counter 8 of 2", x -> x.action(r, 2, 1, 8));
            noSuch("field 31 of 3", x -> x.action(r, 3, 31, 1));
            noSuch("field 0 of 4", x -> x.action(r, 4, 0, 1));
            noSuch("second field 31 of 4", x -> x.action(r, 4, 1, 31));
            noSuch("counter -1 of 5", x -> x.action(r, 5, 1, -1));
            noSuch("expression 6 of 6", x -> x.action(r, 6, 6, 1));
            noSuch("text 6 of 6", x -> x.action(r, 6, 1, 6));
            noSuch("expression -1 of 7", x -> x.action(r, 7, -1, 1));
            noSuch("text -1 of 7", x -> x.action(r, 7, 1, -1));
            noSuch("expression 6 of 8", x -> x.action(r, 8, 6, 1));
            noSuch("counter 8 of 9", x -> x.action(r, 9, 8, 1));
            noSuch("counter 8 of 11", x -> x.action(r, 11, 8, 1));
            noSuch("counter -1 of 12", x -> x.action(r, 12, -1, 1));
        }
        noSuch("rule 12", x -> x.action(12, 0, 0, 0));
        noSuch("rule -1", x -> x.action(-1, 0, 0, 0));
    }

    private static void readingCalls() {
        noSuch("sign(0, 3)", x -> x.sign(0, 3));
        noSuch("sign(0, -2)", x -> x.sign(0, -2));
        noSuch("sign(3, -1)", x -> x.sign(3, -1));
        noSuch("sign(-1, -1)", x -> x.sign(-1, -1));
        noSuch("printed(-1)", x -> x.printed(-1));
        noSuch("printed behind all", x -> x.printed(x.count(4)));
        noSuch("counter(8)", x -> x.counter(8));
        noSuch("counter(-1)", x -> x.counter(-1));
        noSuch("key behind all", x -> x.key(x.count(5), -1));
        noSuch("key(-1, -2)", x -> x.key(-1, -2));
        noSuch("key(0, -3)", x -> x.key(0, -3));
        noSuch("key(0, 120)", x -> x.key(0, 120));
    }

    private static LineRules busyWithPad(String text) {
        LineRules x = busy();
        x.clear();
        return Check.feed(x, text);
    }

    private static void faults() {
        Check.sentence("at a fault, its place + 1, and nothing changes");
        for (String text : new String[] {"*", "ab(", "[z-a]", "a\\", "(".repeat(11), "a".repeat(59) + "("}) {
            LineRules x = busyWithPad(text);
            Check.due("a fault of " + text, x.expression(2) > 0, true);
            Check.due("all behind the fault of " + text, Whole.of(x), Whole.of(busyWithPad(text)));
        }
    }

    private static void argumentsAreLookedAtFirst() {
        Check.sentence("EXCEPTIONS: NoSuchElementException .. then IllegalStateException");
        LineRules x = busy();
        Check.refused("expression(6), and more than 60 signs", Check.NO_SUCH, () -> x.expression(6));
        Check.refused("rule of pattern 7, and twelve rules", Check.NO_SUCH, () -> x.rule(7, 0, 0));
        Check.refused("rule of expression 6, and twelve rules", Check.NO_SUCH, () -> x.rule(1, 6, 0));
        Check.refused("rule of field 0, and twelve rules", Check.NO_SUCH, () -> x.rule(4, 0, 0));
        Check.refused("action 13, and ten actions", Check.NO_SUCH, () -> x.action(0, 13, 1, 1));
        Check.refused("action of counter 8, and ten actions", Check.NO_SUCH, () -> x.action(0, 9, 8, 0));
        Check.refused("more than 60 signs alone", Check.STATE, () -> x.expression(5));
        Check.refused("twelve rules alone", Check.STATE, () -> x.rule(4, 1, 0));
        Check.refused("ten actions alone", Check.STATE, () -> x.action(0, 9, 7, 0));
    }

    private static void refusedAgainAndAgain() {
        Check.sentence("Such a call changes nothing: however often it is made");
        LineRules x = busy();
        for (int n = 0; n < 12; n++) {
            Check.refused("feed", Check.STATE, () -> x.feed(-1, 0, 0, 0, 0));
            Check.refused("expression", Check.STATE, () -> x.expression(0));
            Check.refused("rule", Check.STATE, () -> x.rule(0, 0, 0));
            Check.refused("action", Check.STATE, () -> x.action(0, 0, 0, 0));
        }
        Check.due("all behind them", Whole.of(x), Whole.of(busy()));
    }
}
