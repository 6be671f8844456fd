public final class Promise01NewTest {
    public static void main(String[] args) {
        LineRules x = new LineRules();
        Check.due("NONE", LineRules.NONE, -1);
        for (int what = 0; what <= 5; what++) {
            Check.due("count " + what, x.count(what), 0);
        }
        for (int k = 0; k < 8; k++) {
            Check.due("counter " + k, x.counter(k), 0);
        }
        Check.due("signs of no line", x.sign(0, -1), 0);
        Check.refused("sign of no line", Check.NO_SUCH, () -> x.sign(0, 0));
        Check.refused("field of no line", Check.NO_SUCH, () -> x.sign(1, -1));
        Check.refused("no key", Check.NO_SUCH, () -> x.key(0, -1));
        Check.refused("nothing printed", Check.NO_SUCH, () -> x.printed(0));
        Check.refused("no rule", Check.NO_SUCH, () -> x.action(0, 0, 0, 0));
        Check.due("end", x.end(), -1);
        Check.due("separator", x.separator(44), 32);
        Check.due("clear", x.clear(), 0);
        Check.due("forget", x.forget(), 0);
        expressionsAreEmpty();
        textsAreEmpty();
        objectsAreApart();
        Check.finish();
    }

    private static void expressionsAreEmpty() {
        LineRules x = Check.feed(new LineRules(), "abc");
        for (int k = 0; k < 6; k++) {
            for (int place = 0; place <= 3; place++) {
                Check.due("find " + k, x.find(k, place), place);
                Check.due("end of " + k, x.end(), place);
            }
        }
    }

    private static void textsAreEmpty() {
        for (int k = 0; k < 6; k++) {
            LineRules x = Check.withExpression("b");
            x.rule(0, 0, 0);
            x.action(0, 7, 0, k);
            Check.due("line", Check.line(x, "abcb"), 1);
            Check.due("text " + k, Check.row(x, 0), "ac");
        }
    }

    private static void objectsAreApart() {
        LineRules one = Check.withAction(11, 3, 5);
        Check.line(one, "a b");
        LineRules other = new LineRules();
        Check.due("rules of another object", other.count(1), 0);
        Check.due("lines of another object", other.count(2), 0);
        Check.due("counter of another object", other.counter(3), 0);
    }
}
