public final class Promise12EndTest {
    public static void main(String[] args) {
        LineRules x = Check.withExpression("b+");
        Check.due("without a find", x.end(), -1);
        Check.feed(x, "abbab");
        x.find(0, 0);
        Check.due("the first", x.end(), 3);
        Check.due("asked again", x.end(), 3);
        x.find(0, 3);
        Check.due("the second", x.end(), 5);
        x.find(0, 5);
        Check.due("none found", x.end(), -1);
        x.find(1, 2);
        Check.due("an empty one", x.end(), 2);
        Check.refused("no find", Check.NO_SUCH, () -> x.find(0, 6));
        Check.due("behind no find", x.end(), 2);
        linesDoNotFind(x);
        Check.finish();
    }

    private static void linesDoNotFind(LineRules x) {
        x.find(0, 0);
        x.rule(1, 0, 0);
        x.action(0, 8, 1, 0);
        x.action(0, 7, 0, 0);
        x.line();
        Check.due("behind a line", x.end(), 3);
        x.clear();
        Check.expression(x, 0, "z");
        Check.line(x, "a");
        Check.due("behind a line without a match", x.end(), 3);
        x.find(0, 0);
        Check.due("none found in the empty pad", x.end(), -1);
    }
}
