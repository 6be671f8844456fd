public final class Promise14PrintedTest {
    public static void main(String[] args) {
        LineRules x = Check.withAction(0, 0, 0);
        refused(x, 0);
        Check.line(x, "ab");
        Check.due("sign 0", x.printed(0), 97);
        Check.due("sign 1", x.printed(1), 98);
        Check.due("the line end", x.printed(2), 10);
        refused(x, 3);
        refused(x, -1);
        refused(x, Integer.MIN_VALUE);
        refused(x, Integer.MAX_VALUE);
        Check.line(x, "");
        Check.due("an empty line's end", x.printed(3), 10);
        refused(x, 4);
        latestAreKept();
        Check.finish();
    }

    private static void refused(LineRules x, int i) {
        Check.refused("printed " + i, Check.NO_SUCH, () -> x.printed(i));
    }

    private static void latestAreKept() {
        LineRules x = Check.withAction(0, 0, 0);
        StringBuilder all = new StringBuilder();
        for (int n = 0; n < 15; n++) {
            String line = String.valueOf((char) ('a' + n)).repeat(99);
            Check.line(x, line);
            all.append(line).append('\n');
        }
        Check.due("1500 in all", x.count(4), 1500);
        Check.due("all are kept", Check.printed(x), all.toString());
        x.line();
        Check.due("1501 in all", x.count(4), 1501);
        refused(x, 0);
        Check.due("sign 1", x.printed(1), 97);
        Check.due("sign 1500", x.printed(1500), 10);
        refused(x, 1501);
        Check.line(x, "z".repeat(120));
        all.append('\n').append("z".repeat(120)).append('\n');
        refused(x, 121);
        Check.due("the latest 1500", Check.printed(x), all.substring(122));
        for (int n = 0; n < 40; n++) {
            Check.line(x, "" + n + "y".repeat(110));
            all.append(n).append("y".repeat(110)).append('\n');
        }
        Check.due("in all", x.count(4), all.length());
        Check.due("the latest 1500 then", Check.printed(x), all.substring(all.length() - 1500));
        refused(x, all.length() - 1501);
        refused(x, 0);
    }
}
