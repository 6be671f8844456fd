public final class Promise14PrintedTest {
    public static void main(String[] args) {
        LineRules x = Check.withAction(0, 0, 0);
        refused(x, 0);
        Check.line(x, "ab");
        Check.due("sign 0", x.printed(0), 97);
        Check.due("sign 1", x.printed(1), 98);
        Check.due("the line end", x.printed(2), 10);
        refused(x, 3);
        refused(x, -1);
        refused(x, Integer.MIN_VALUE);
        refused(x, Integer.MAX_VALUE);
        Check.line(x, "");
        Check.due("an empty line's end", x.printed(3), 10);
        refused(x, 4);
        latestAreKept();
        Check.finish();
    }

    private static void refused(LineRules x, int i) {
        Check.refused("printed " + i, Check.NO_SUCH, () -> x.printed(i));
    }

    /** Prints lines of growing length; the object has calls left to read some 300 signs. */
    private static LineRules printing(int lines, StringBuilder all) {
        LineRules x = Check.withAction(0, 0, 0);
        for (int n = 0; n < lines; n++) {
            String line = n + String.valueOf((char) ('a' + n % 26)).repeat(n + 57);
            Check.line(x, line);
            all.append(line).append('\n');
        }
        return x;
    }

    private static void latestAreKept() {
        for (int lines : new int[] {10, 20, 21, 22, 35}) {
            StringBuilder all = new StringBuilder();
            printing(lines, all);
            int first = Math.max(0, all.length() - 1500);
            for (int from = first; from < all.length(); from += 300) {
                LineRules x = printing(lines, new StringBuilder());
                Check.due("in all", x.count(4), all.length());
                for (int i = from; i < Math.min(all.length(), from + 300); i++) {
                    Check.due("sign " + i + " of " + all.length(), x.printed(i), (int) all.charAt(i));
                }
                refused(x, first - 1);
                refused(x, all.length());
            }
        }
    }
}
