import com.sun.management.ThreadMXBean;
import java.lang.management.ManagementFactory;

/** What a run makes stays in its room: the constructor makes the rows, and the calls make keys alone. */
public final class RoomTest {
    private static final ThreadMXBean THREADS = (ThreadMXBean) ManagementFactory.getThreadMXBean();
    /** Some ten thousand elements, none of more than eight bytes, stand in a new object. */
    private static final long NEW_BYTES = 100_000;
    /** Forty keys of 120 signs, with what the measuring itself makes. */
    private static final long CALLS_BYTES = 40_000;

    public static void main(String[] args) {
        // classes are loaded and warm before anything is measured
        dearRun(new LineRules());
        long start = made();
        LineRules x = new LineRules();
        long behindNew = made();
        dearRun(x);
        long behindRun = made();
        Check.due("room of a new object", behindNew - start <= NEW_BYTES, true);
        Check.due("room of its calls", behindRun - behindNew <= CALLS_BYTES, true);
        Check.finish();
    }

    private static long made() {
        return THREADS.getThreadAllocatedBytes(Thread.currentThread().getId());
    }

    private static void fill(LineRules x, int word, int times) {
        for (int n = 0; n < times; n++) {
            x.feed(word, word, word, word, word);
        }
    }

    /** Some 500 calls; every line goes through twelve rules with ten actions each. */
    private static void dearRun(LineRules x) {
        Check.feed(x, "([a]*)*?").expression(0);
        fill(x, 0x61612061, 6);
        x.text(0);
        for (int r = 0; r < 12; r++) {
            x.rule(1, 0, 0);
            for (int action = 0; action < 9; action++) {
                x.action(r, action, action < 6 ? r + 1 : 0, action == 3 || action == 4 ? r + 2 : 0);
            }
            x.action(r, 9, r % 8, 0);
        }
        for (int n = 0; n < 18; n++) {
            fill(x, 0x61616161 + n, 6);
            x.line();
            fill(x, 0x61616161, 3);
            x.expression(1);
            fill(x, 0x61616161, 6);
            x.find(0, n);
            x.clear();
        }
    }
}
