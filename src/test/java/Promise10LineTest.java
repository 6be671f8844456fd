public final class Promise10LineTest {
    public static void main(String[] args) {
        padBecomesLine();
        printing();
        sums();
        counting();
        settingFields();
        settingFarFields();
        settingLongFields();
        replacing();
        replacingAll();
        replacedLinesAreCutAnew();
        countersAndNumbers();
        actionsDoTheirOwnAlone();
        noMoreRules();
        patternsSeeTheLineAsItIs();
        laterChangesCount();
        Check.finish();
    }

    private static void padBecomesLine() {
        LineRules x = Check.feed(new LineRules(), "a b");
        Check.due("a line without rules", x.line(), 0);
        Check.due("the pad", x.count(0), 0);
        Check.due("lines", x.count(2), 1);
        Check.due("the line", Check.row(x, 0), "a b");
        Check.due("an empty line", x.line(), 0);
        Check.due("lines then", x.count(2), 2);
        Check.due("the line then", Check.row(x, 0), "");
        Check.due("its fields", Check.fields(x), "");
    }

    private static void printing() {
        LineRules x = Check.withAction(0, 0, 0);
        x.action(0, 1, 2, 0);
        x.action(0, 1, 30, 0);
        Check.expression(x, 1, "c*");
        Check.expression(x, 2, "c+");
        Check.expression(x, 3, "q");
        x.action(0, 8, 1, 0);
        x.action(0, 8, 2, 0);
        x.action(0, 8, 3, 0);
        Check.line(x, " a bccb ccc");
        Check.due("printed", Check.printed(x), " a bccb ccc\nbccb\n\n\ncc\n");
    }

    private static void sums() {
        LineRules x = Check.withAction(2, 1, 0);
        x.action(0, 2, 2, 7);
        x.action(0, 2, 9, 0);
        Check.line(x, "12a -5");
        Check.line(x, "2147483647 -2147483648");
        Check.line(x, "x 99999999999");
        Check.due("counter 0", x.counter(0), 2147483647 + 12);
        Check.due("counter 7", x.counter(7), -5 + Integer.MIN_VALUE + (int) 99999999999L);
    }

    private static void counting() {
        LineRules x = Check.withAction(3, 1, 2);
        x.action(0, 3, 2, -3);
        Check.line(x, "b a");
        Check.line(x, "a ab");
        Check.line(x, "b");
        Check.due("the table", Check.table(x), "=-3 a=-1 ab=-3 b=4 ");
    }

    private static void setting(int separator, String line, int a, int b, String fields, String whole) {
        LineRules x = Check.withAction(4, a, b);
        x.separator(separator);
        Check.line(x, line);
        Check.due("fields of " + line + " behind 4 " + a + " " + b, Check.fields(x), fields);
        Check.due("line " + line + " behind 4 " + a + " " + b, Check.row(x, 0), whole);
    }

    private static void settingFields() {
        setting(' ', "  a   b  c ", 2, 3, "<a><c><c>", "a c c");
        setting(' ', "a b c", 3, 1, "<a><b><a>", "a b a");
        setting(' ', "a  b", 1, 1, "<a><b>", "a b");
        setting(',', "a,,c", 2, 1, "<a><a><c>", "a,a,c");
        setting(',', "a,b,c", 2, 4, "<a><><c>", "a,,c");
        setting(' ', "a b c", 2, 30, "<a><><c>", "a  c");
        LineRules x = Check.withAction(11, 6, Integer.MIN_VALUE);
        x.action(0, 5, 2, 6);
        x.action(0, 5, 1, 0);
        Check.line(x, "a b c");
        Check.due("numbers", Check.row(x, 0), "0 -2147483648 c");
        Check.due("fields", Check.fields(x), "<0><-2147483648><c>");
    }

    private static void settingFarFields() {
        setting(' ', "a b", 5, 2, "<a><b><><><b>", "a b   b");
        setting(' ', "", 1, 1, "<>", "");
        setting(' ', "", 2, 1, "<><>", " ");
        setting(',', "a", 3, 2, "<a><><>", "a,,");
        setting(',', "a", 30, 1, "<a>" + "<>".repeat(28) + "<a>", "a" + ",".repeat(29) + "a");
        setting(',', "a,".repeat(40), 30, 1, "<a>".repeat(30), "a,".repeat(29) + "a");
        setting(',', "b" + ",a".repeat(34), 2, 1, "<b><b>" + "<a>".repeat(28), "b,b" + ",a".repeat(28));
    }

    private static void settingLongFields() {
        String much = "x".repeat(70);
        setting(' ', much + " y", 2, 1, "<" + much + "><" + much + ">", much + " " + "x".repeat(49));
        LineRules x = Check.withAction(4, 2, 1);
        x.action(0, 4, 3, 2);
        x.action(0, 4, 1, 9);
        Check.line(x, much);
        Check.due("the line", Check.row(x, 0), " " + much + " " + "x".repeat(48));
        Check.due("the fields", Check.fields(x), "<><" + much + "><" + much + ">");
    }

    private static void replacement(int action, String wanted, String text, String line, String whole) {
        LineRules x = Check.withExpression(wanted);
        Check.text(x, 4, text);
        x.rule(0, 0, 0);
        x.action(0, action, 0, 4);
        Check.line(x, line);
        Check.due("line " + line + " with " + wanted + " for " + text, Check.row(x, 0), whole);
    }

    private static void replacing() {
        replacement(6, "b+", "<>", "abbcb", "a<>cb");
        replacement(6, "b*", "<>", "abbcb", "<>abbcb");
        replacement(6, "q", "<>", "abbcb", "abbcb");
        replacement(6, "$", "<>", "ab", "ab<>");
        replacement(6, "", "<>", "", "<>");
        replacement(6, "b+", "", "abbcb", "acb");
        replacement(6, "a", "y".repeat(119), "abc", "y".repeat(119) + "b");
        replacement(6, "b", "y".repeat(120), "abc", "a" + "y".repeat(119));
        replacement(6, "a", "a.a", "bab", "ba.ab");
    }

    private static void replacingAll() {
        replacement(7, "b+", "<>", "abbcb", "a<>c<>");
        replacement(7, "b*", "<>", "abbcb", "<>a<>c<>");
        replacement(7, "b*", "<>", "bab", "<>a<>");
        replacement(7, "b*", "-", "", "-");
        replacement(7, "", "-", "abc", "-a-b-c-");
        replacement(7, "^", "-", "aa", "-aa");
        replacement(7, "^a", "-", "aa", "-a");
        replacement(7, "$", "-", "aa", "aa-");
        replacement(7, "a$", "-", "aa", "a-");
        replacement(7, "b|$", "-", "ab", "a-");
        replacement(7, "aa", "b", "aaaaa", "bba");
        replacement(7, "a", "aa", "aba", "aabaa");
        replacement(7, "q", "-", "aba", "aba");
        replacement(7, "a|b", "", "abcab", "c");
        replacement(7, ".", "xy", "a".repeat(120), "xy".repeat(60));
        replacement(7, "", "x", "a".repeat(120), "xa".repeat(60));
        replacement(7, "a", "x", "a".repeat(120), "x".repeat(120));
        replacement(7, "", "", "a".repeat(120), "a".repeat(120));
    }

    private static void replacedLinesAreCutAnew() {
        for (int action = 6; action <= 7; action++) {
            LineRules x = Check.withExpression("-");
            Check.text(x, 1, " x ");
            x.rule(0, 0, 0);
            x.action(0, action, 0, 1);
            Check.line(x, "a-b c");
            Check.due("the line", Check.row(x, 0), "a x b c");
            Check.due("its fields", Check.fields(x), "<a><x><b><c>");
            x.forget();
            x.rule(0, 0, 0);
            x.action(0, 4, 4, 2);
            x.action(0, action, 0, 1);
            Check.line(x, "a b");
            Check.due("fields without a match", Check.fields(x), "<a><b><b>");
        }
    }

    private static void countersAndNumbers() {
        LineRules x = Check.withAction(12, 2, 0);
        x.action(0, 9, 2, 0);
        x.action(0, 11, 2, -40);
        x.action(0, 9, 2, 0);
        x.action(0, 11, 3, Integer.MIN_VALUE);
        x.action(0, 9, 3, 0);
        x.action(0, 9, 4, 0);
        x.action(0, 11, 3, Integer.MAX_VALUE);
        x.action(0, 9, 3, 0);
        x.line();
        x.line();
        String rest = "-40\n-2147483648\n0\n2147483647\n";
        Check.due("printed", Check.printed(x), "1\n" + rest + "2\n" + rest);
        Check.due("counter 2", x.counter(2), -40);
    }

    /** What a line "a -12 b" leaves behind an action, counter 2 being 10, expression 2 "[ab]" and text 2 "tb". */
    private static void alone(int action, int a, int b, String want) {
        LineRules x = Check.withAction(11, 2, 10);
        x.line();
        x.forget();
        Check.expression(x, 2, "[ab]");
        Check.text(x, 2, "tb");
        x.rule(0, 0, 0);
        x.action(0, action, a, b);
        Check.line(x, "a -12 b");
        StringBuilder got = new StringBuilder(Check.row(x, 0)).append('|').append(Check.fields(x));
        for (int k = 0; k < 8; k++) {
            got.append(k == 0 ? '|' : ' ').append(x.counter(k));
        }
        got.append('|').append(Check.table(x)).append('|').append(Check.printed(x));
        Check.due("all behind action " + action, got.toString(), want);
    }

    private static void actionsDoTheirOwnAlone() {
        String line = "a -12 b|<a><-12><b>";
        String counters = "|0 0 10 0 0 0 0 0|";
        alone(0, 2, 2, line + counters + "|a -12 b\n");
        alone(1, 2, 2, line + counters + "|-12\n");
        alone(2, 2, 2, line + "|0 0 -2 0 0 0 0 0||");
        alone(3, 2, 1, line + counters + "-12=1 |");
        alone(4, 2, 1, "a a b|<a><a><b>" + counters + "|");
        alone(5, 2, 2, "a 10 b|<a><10><b>" + counters + "|");
        alone(6, 2, 2, "tb -12 b|<tb><-12><b>" + counters + "|");
        alone(7, 2, 2, "tb -12 tb|<tb><-12><tb>" + counters + "|");
        alone(8, 2, 2, line + counters + "|a\n");
        alone(9, 2, 2, line + counters + "|10\n");
        alone(10, 2, 2, line + counters + "|");
        alone(11, 2, 3, line + "|0 0 3 0 0 0 0 0||");
        alone(12, 2, 3, line + "|0 0 2 0 0 0 0 0||");
    }

    private static void noMoreRules() {
        LineRules x = new LineRules();
        x.rule(0, 0, 0);
        x.rule(6, 1, 0);
        x.rule(0, 0, 0);
        x.action(1, 10, 0, 0);
        x.action(1, 11, 1, 5);
        x.action(2, 11, 2, 6);
        Check.due("a line that ends", Check.line(x, "a b"), 2);
        Check.due("behind it in its rule", x.counter(1), 5);
        Check.due("in a rule behind it", x.counter(2), 0);
        Check.due("a line that goes on", Check.line(x, "a"), 2);
        Check.due("in the last rule", x.counter(2), 6);
    }

    private static void patternsSeeTheLineAsItIs() {
        LineRules x = Check.withExpression("b");
        Check.text(x, 0, "1 2");
        x.rule(1, 0, 0);
        x.action(0, 6, 0, 0);
        x.rule(1, 0, 0);
        x.rule(6, 2, 0);
        x.rule(4, 2, 2);
        Check.due("a line", Check.line(x, "b c"), 3);
        Check.due("a line with two", Check.line(x, "bb c"), 4);
        Check.due("a line without", Check.line(x, "c 2"), 1);
    }

    private static void laterChangesCount() {
        LineRules x = Check.withExpression("a");
        Check.text(x, 0, "1");
        x.rule(0, 0, 0);
        x.action(0, 7, 0, 0);
        Check.line(x, "ab");
        Check.expression(x, 0, "b");
        Check.text(x, 0, "2");
        Check.due("the latest line stays", Check.row(x, 0), "1b");
        Check.line(x, "ab");
        Check.due("the next line", Check.row(x, 0), "a2");
        x.separator('a');
        x.action(0, 4, 3, 2);
        Check.line(x, "ab");
        Check.due("a line with all of them", Check.row(x, 0), "a2a2");
    }
}
