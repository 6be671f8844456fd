public final class Promise09ForgetTest {
    public static void main(String[] args) {
        LineRules x = Check.withAction(2, 1, 4);
        x.action(0, 3, 1, 1);
        x.rule(0, 0, 0);
        x.rule(6, 0, 0);
        Check.line(x, "5 6");
        Check.due("forget", x.forget(), 3);
        Check.due("count", x.count(1), 0);
        Check.due("forget again", x.forget(), 0);
        Check.due("a line without rules", Check.line(x, "7"), 0);
        Check.due("the counter stays", x.counter(4), 5);
        Check.due("the table stays", Check.table(x), "5=1 ");
        Check.refused("an action of a forgotten rule", Check.NO_SUCH, () -> x.action(0, 0, 0, 0));
        Check.due("a rule anew", x.rule(0, 0, 0), 0);
        Check.due("a line by a rule without actions", Check.line(x, "8"), 1);
        Check.due("forgotten actions are not done", x.counter(4), 5);
        Check.due("the first action anew", x.action(0, 0, 0, 0), 1);
        twelveAnew(x);
        Check.finish();
    }

    private static void twelveAnew(LineRules x) {
        x.forget();
        for (int r = 0; r < 12; r++) {
            Check.due("rule", x.rule(0, 0, 0), r);
        }
        Check.due("forget twelve", x.forget(), 12);
    }
}
