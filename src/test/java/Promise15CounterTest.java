public final class Promise15CounterTest {
    public static void main(String[] args) {
        LineRules x = new LineRules();
        x.rule(0, 0, 0);
        for (int k = 0; k < 8; k++) {
            x.action(0, 11, k, 100 - k);
        }
        for (int k = 0; k < 8; k++) {
            Check.due("counter " + k, x.counter(k), 0);
        }
        x.line();
        for (int k = 0; k < 8; k++) {
            Check.due("counter " + k + " behind a line", x.counter(k), 100 - k);
        }
        for (int k : new int[] {-1, 8, Integer.MIN_VALUE, Integer.MAX_VALUE}) {
            Check.refused("counter " + k, Check.NO_SUCH, () -> x.counter(k));
        }
        Check.finish();
    }
}
