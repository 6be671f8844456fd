public final class Promise17CountTest {
    public static void main(String[] args) {
        LineRules x = Check.withAction(0, 0, 0);
        x.action(0, 3, 1, 1);
        x.action(0, 3, 2, 1);
        x.rule(6, 5, 0);
        Check.line(x, "a b c");
        Check.line(x, "d b e f");
        Check.feed(x, "pad12");
        int[] want = {5, 2, 2, 4, 14, 3};
        for (int what = 0; what <= 5; what++) {
            Check.due("count " + what, x.count(what), want[what]);
        }
        for (int what : new int[] {-1, 6, Integer.MIN_VALUE, Integer.MAX_VALUE}) {
            Check.refused("count " + what, Check.ARGUMENT, () -> x.count(what));
        }
        Check.finish();
    }
}
