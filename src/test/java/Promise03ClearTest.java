public final class Promise03ClearTest {
    public static void main(String[] args) {
        LineRules x = Check.feed(new LineRules(), "a b");
        Check.due("clear", x.clear(), 3);
        Check.due("count", x.count(0), 0);
        Check.due("clear again", x.clear(), 0);
        Check.feed(x, "c").line();
        Check.due("the line", Check.row(x, 0), "c");
        Check.feed(x, "d".repeat(120));
        Check.due("clear a full pad", x.clear(), 120);
        Check.due("the line stays", Check.row(x, 0), "c");
        Check.finish();
    }
}
