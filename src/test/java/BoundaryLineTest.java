/** The boundary cases of lines and of what is done for them: promises 5 and 10. */
public final class BoundaryLineTest {
    public static void main(String[] args) {
        textsAreSix();
        textsAreAtMostAHundredAndTwenty();
        thePadIsALine();
        howManyHadIt();
        fieldsThatAreNotThereArePrinted();
        countersGrowAndWrap();
        fieldsBecomeFields();
        thoseBetweenAreEmpty();
        thirtyFieldsAreSet();
        theFirstHundredAndTwentySigns();
        fieldsBecomeCounters();
        theFirstMatch();
        theFirstMatchOfALongLine();
        allMatches();
        anEmptyOneIsNotTakenThere();
        allMatchesOfALongLine();
        cutAnew();
        printedIfItIsFound();
        countersArePrinted();
        noMoreRules();
        countersBecome();
        lineNumbersGoToCounters();
        oneAfterTheOther();
        linesToCome();
        Check.finish();
    }

    private static void textsAreSix() {
        Check.sentence("TEXTS 0 .. 5, empty at first");
        for (int k = -2; k <= 8; k++) {
            LineRules x = Check.feed(new LineRules(), "ab");
            int number = k;
            boolean there = k >= 0 && k <= 5;
            Object want = there ? 2 : "throws NoSuchElementException";
            Check.due("text(" + k + ")", Check.answer(() -> x.text(number)), want);
            Check.due("the pad behind it", x.count(0), there ? 0 : 2);
        }
        LineRules x = Check.feed(new LineRules(), "ab");
        Check.refused("the least", Check.NO_SUCH, () -> x.text(Integer.MIN_VALUE));
        Check.refused("the greatest", Check.NO_SUCH, () -> x.text(Integer.MAX_VALUE));
        for (int k = 0; k <= 5; k++) {
            replaced(6, "b", k, "", "abc", "ac");
        }
    }

    private static void textsAreAtMostAHundredAndTwenty() {
        Check.sentence("are rows of at most 120 signs .. The pad becomes text k, and is empty: its length");
        for (int length : new int[] {0, 1, 61, 119, 120}) {
            LineRules x = Check.withAction(6, 0, 5);
            Check.due("text of " + length, Check.feed(x, "t".repeat(length)).text(5), length);
            Check.due("the pad", x.count(0), 0);
            x.line();
            Check.due("all of it", Check.row(x, 0), "t".repeat(length));
        }
        LineRules x = Check.withAction(6, 0, 5);
        Check.text(x, 5, "long");
        Check.due("the empty pad becomes a text", x.text(5), 0);
        x.line();
        Check.due("it is empty again", x.sign(0, -1), 0);
    }

    private static void thePadIsALine() {
        Check.sentence("The pad is a line, and empty then");
        LineRules x = new LineRules();
        Check.due("an empty pad", x.line(), 0);
        Check.due("lines", x.count(2), 1);
        Check.line(x, "a".repeat(120));
        Check.due("lines then", x.count(2), 2);
        Check.due("the pad", x.count(0), 0);
        Check.due("a full line", Check.row(x, 0), "a".repeat(120));
        Check.line(x, "b");
        Check.due("a line of one sign behind it", Check.row(x, 0), "b");
        Check.due("its field", Check.fields(x), "<b>");
    }

    private static void howManyHadIt() {
        Check.sentence("how many rules had it");
        LineRules x = new LineRules();
        for (int r = 0; r < 12; r++) {
            Check.due("rules that have a line", x.line(), r);
            x.rule(0, 0, 0);
        }
        Check.due("all twelve", x.line(), 12);
        LineRules none = new LineRules();
        none.rule(6, 1, 0);
        Check.due("none", Check.line(none, "a"), 0);
    }

    private static void fieldsThatAreNotThereArePrinted() {
        Check.sentence("1 field a is printed (A field that is not there is empty.)");
        LineRules x = Check.withAction(1, 1, 0);
        x.action(0, 1, 2, 0);
        x.action(0, 1, 30, 0);
        Check.line(x, "ab");
        Check.due("printed", Check.printed(x), "ab\n\n\n");
        x.line();
        Check.due("of an empty line", Check.printed(x), "ab\n\n\n\n\n\n");
    }

    private static void countersGrowAndWrap() {
        Check.sentence("2 counter b grows by the number of field a");
        LineRules x = Check.withAction(2, 1, 0);
        x.action(0, 2, 2, 7);
        Check.line(x, "2147483647 -2147483648");
        Check.line(x, "1 -1");
        Check.due("counter 0", x.counter(0), Integer.MIN_VALUE);
        Check.due("counter 7", x.counter(7), Integer.MAX_VALUE);
        x.line();
        Check.due("by a field that is not there", x.counter(0), Integer.MIN_VALUE);
    }

    /** What action 4 leaves of a line. */
    private static void set(int separator, String line, int a, int b, String fields, String whole) {
        LineRules x = Check.withAction(4, a, b);
        x.separator(separator);
        Check.line(x, line);
        Check.due("fields of " + line + " behind 4 " + a + " " + b, Check.fields(x), fields);
        Check.due("line " + line + " behind 4 " + a + " " + b, Check.row(x, 0), whole);
    }

    private static void fieldsBecomeFields() {
        Check.sentence("4 field a becomes the text of field b .. with the separator between each two");
        set(32, "a b", 1, 2, "<b><b>", "b b");
        set(32, "a b", 2, 1, "<a><a>", "a a");
        set(32, "  a   b ", 1, 1, "<a><b>", "a b");
        set(',', ",a,", 1, 2, "<a><a><>", "a,a,");
        set(32, "a b c", 2, 4, "<a><><c>", "a  c");
        set(32, "a", 1, 30, "<>", "");
        set(255, "a\u00ffb", 2, 1, "<a><a>", "a\u00ffa");
    }

    private static void thoseBetweenAreEmpty() {
        Check.sentence("those between that are not there are empty");
        set(32, "a", 2, 1, "<a><a>", "a a");
        set(32, "a", 3, 1, "<a><><a>", "a  a");
        set(32, "a", 3, 2, "<a><><>", "a  ");
        set(32, "", 1, 1, "<>", "");
        set(32, "", 3, 1, "<><><>", "  ");
        set(',', "", 2, 2, "<><>", ",");
        LineRules x = Check.withAction(4, 5, 1);
        Check.line(x, "a b c d");
        Check.line(x, "e");
        Check.due("no older field comes back", Check.fields(x), "<e><><><><e>");
    }

    private static void thirtyFieldsAreSet() {
        Check.sentence("the line becomes all fields (at most 30; what is behind the thirtieth is none)");
        set(',', "a", 30, 1, "<a>" + "<>".repeat(28) + "<a>", "a" + ",".repeat(29) + "a");
        set(32, "", 30, 30, "<>".repeat(30), " ".repeat(29));
        set(',', "b" + ",a".repeat(29) + ",c", 30, 1, "<b>" + "<a>".repeat(28) + "<b>", "b" + ",a".repeat(28) + ",b");
        set(32, "a ".repeat(31), 1, 1, "<a>".repeat(30), "a" + " a".repeat(29));
    }

    private static void theFirstHundredAndTwentySigns() {
        Check.sentence("and the line becomes all fields, .. of which the first 120 signs are");
        String much = "x".repeat(60);
        set(32, much.substring(1) + " " + "y", 2, 1, "<" + much.substring(1) + "><" + much.substring(1) + ">",
            much.substring(1) + " " + much.substring(1));
        set(32, much + " y", 2, 1, "<" + much + "><" + much + ">", much + " " + much.substring(1));
        String most = "x".repeat(120);
        set(32, most, 2, 1, "<" + most + "><" + most + ">", most);
        set(32, most, 30, 1, "<" + most + ">" + "<>".repeat(28) + "<" + most + ">", most);
        String edge = "x".repeat(119);
        set(',', edge, 2, 1, "<" + edge + "><" + edge + ">", edge + ",");
        set(32, "ab" + " ".repeat(117) + "c", 1, 2, "<c><c>", "c c");
    }

    private static void fieldsBecomeCounters() {
        Check.sentence("5 of the number of counter b");
        LineRules x = Check.withAction(11, 7, Integer.MIN_VALUE);
        x.action(0, 5, 1, 7);
        x.action(0, 5, 4, 0);
        Check.line(x, "a b");
        Check.due("the line", Check.row(x, 0), "-2147483648 b  0");
        Check.due("its fields", Check.fields(x), "<-2147483648><b><><0>");
        LineRules full = Check.withAction(11, 0, -12);
        full.action(0, 5, 2, 0);
        Check.line(full, "x".repeat(118));
        Check.due("a line cut at 120", Check.row(full, 0), "x".repeat(118) + " -");
        Check.due("its field is whole", Check.row(full, 2), "-12");
        LineRules last = Check.withAction(5, 30, 0);
        last.line();
        Check.due("the thirtieth field", Check.fields(last), "<>".repeat(29) + "<0>");
    }

    /** What action 6 or 7 leaves of a line. */
    private static void replaced(int action, String wanted, int k, String text, String line, String whole) {
        LineRules x = Check.withExpression(wanted);
        Check.text(x, k, text);
        x.rule(0, 0, 0);
        x.action(0, action, 0, k);
        Check.line(x, line);
        Check.due("line " + line + ", " + wanted + " being " + text + " by " + action, Check.row(x, 0), whole);
    }

    private static void first(String wanted, String text, String line, String whole) {
        replaced(6, wanted, 0, text, line, whole);
    }

    private static void all(String wanted, String text, String line, String whole) {
        replaced(7, wanted, 5, text, line, whole);
    }

    private static void theFirstMatch() {
        Check.sentence("6 the first match of expression a in the line becomes the text b");
        first("b+", "-", "abbab", "a-ab");
        first("q", "-", "ab", "ab");
        first("", "-", "", "-");
        first("", "-", "ab", "-ab");
        first("$", "-", "ab", "ab-");
        first("b*", "-", "abb", "-abb");
        first(".*", "-", "ab", "-");
        first(".*", "", "ab", "");
        first("b", "b", "b", "b");
    }

    private static void theFirstMatchOfALongLine() {
        Check.sentence("Behind 6 and 7 the line (its first 120 signs): 6");
        String most = "a".repeat(119);
        first("^", "-", most, "-" + most);
        first("^", "--", most, "--" + most.substring(1));
        first("$", "-", most, most + "-");
        first("$", "--", most, most + "-");
        first("$", "-", most + "a", most + "a");
        first("b", "-".repeat(120), "abc", "a" + "-".repeat(119));
        first("b", "-".repeat(118), "abc", "a" + "-".repeat(118) + "c");
        first("b", "-".repeat(119), "abc", "a" + "-".repeat(119));
        first("a*", "", most + "a", "");
        first("a", "", "a" + most, most);
    }

    private static void allMatches() {
        Check.sentence("7 all matches do .. the first one found from 0, then from the end of the one before");
        all("a", "-", "aba", "-b-");
        all("a", "", "aba", "b");
        all("q", "-", "aba", "aba");
        all("aa", "-", "aaaaa", "--a");
        all("aba", "-", "ababa", "-ba");
        all("a+", "-", "aabaa", "-b-");
        all("a", "aa", "aa", "aaaa");
        all("^a", "-", "aa", "-a");
        all("a$", "-", "aa", "a-");
        all(".", "-", "a", "-");
        all("a", "-", "", "");
    }

    private static void anEmptyOneIsNotTakenThere() {
        Check.sentence("but that an empty one is not taken there (it is looked for from one further on then)");
        all("", "-", "", "-");
        all("", "-", "a", "-a-");
        all("", "-", "abc", "-a-b-c-");
        all("b*", "-", "b", "-");
        all("b*", "-", "bb", "-");
        all("b*", "-", "ab", "-a-");
        all("b*", "-", "ba", "-a-");
        all("b*", "-", "abbab", "-a-a-");
        all("b*", "-", "bac", "-a-c-");
        all("b|", "-", "bb", "--");
        all("b?", "-", "bba", "--a-");
        all("$", "-", "a", "a-");
        all("a|$", "-", "ba", "b-");
        all("a|^", "-", "ab", "-b");
        all("^|a", "-", "ba", "-b-");
        all("^|$", "-", "", "-");
        all("^|$", "-", "a", "-a-");
        all("(ab)*", "-", "abaab", "-a-");
    }

    private static void allMatchesOfALongLine() {
        Check.sentence("Behind 6 and 7 the line (its first 120 signs): 7");
        String most = "a".repeat(120);
        all("a", "b", most, "b".repeat(120));
        all("a", "", most, "");
        all("a", "bc", most, "bc".repeat(60));
        all("a", "bcd", "a".repeat(41), "bcd".repeat(40));
        all("", "", most, most);
        all("", "b", most, "ba".repeat(60));
        all("", "b", "a".repeat(59), "ba".repeat(59) + "b");
        all("$", "b", most, most);
        all("a$", "b", most, "a".repeat(119) + "b");
        all("c", "b".repeat(120), "ac" + "a".repeat(100) + "c", "a" + "b".repeat(119));
    }

    private static void cutAnew() {
        Check.sentence("Behind 6 and 7 the line .. is cut into fields anew");
        for (int action = 6; action <= 7; action++) {
            LineRules x = Check.withExpression("-");
            Check.text(x, 0, " x ");
            x.rule(0, 0, 0);
            x.action(0, action, 0, 0);
            Check.line(x, "a-b");
            Check.due("more fields", Check.fields(x), "<a><x><b>");
            Check.line(x, "-");
            Check.due("edges without fields", Check.fields(x), "<x>");
            x.text(0);
            Check.line(x, "-");
            Check.due("an empty line", Check.fields(x), "");
            Check.due("its fields", x.count(3), 0);
            Check.line(x, "a-b c");
            Check.due("fewer fields", Check.fields(x), "<ab><c>");
            emptyFieldsGo(action);
            thirtyAnew(action);
        }
    }

    private static void emptyFieldsGo(int action) {
        LineRules x = Check.withAction(4, 4, 1);
        x.action(0, action, 0, 0);
        Check.line(x, "a");
        Check.due("empty fields between blanks", Check.fields(x), "<a><a>");
        Check.due("the line", Check.row(x, 0), "a   a");
        x.separator(',');
        Check.line(x, "a");
        Check.due("empty fields between others", Check.fields(x), "<a><><><a>");
    }

    private static void thirtyAnew(int action) {
        LineRules x = Check.withExpression("-");
        Check.text(x, 0, ",".repeat(40));
        x.separator(',');
        x.rule(0, 0, 0);
        x.action(0, action, 0, 0);
        Check.line(x, "a-b");
        Check.due("at most thirty", Check.fields(x), "<a>" + "<>".repeat(29));
        Check.text(x, 0, "y".repeat(100) + ",z");
        Check.line(x, "x".repeat(19) + "-");
        Check.due("of the first 120 signs", Check.fields(x), "<" + "x".repeat(19) + "y".repeat(100) + "><>");
    }

    private static void printedIfItIsFound() {
        Check.sentence("8 the first match of expression a in the line is printed, if it is found");
        LineRules x = Check.withExpression("b+");
        Check.expression(x, 5, "$");
        x.rule(0, 0, 0);
        x.action(0, 8, 0, 0);
        Check.line(x, "ac");
        Check.due("not found", x.count(4), 0);
        Check.line(x, "abbab");
        Check.due("the longest of the first", Check.printed(x), "bb\n");
        Check.line(x, "b".repeat(120));
        Check.due("a whole line", Check.printed(x), "bb\n" + "b".repeat(120) + "\n");
        x.forget();
        x.rule(0, 0, 0);
        x.action(0, 8, 5, 0);
        Check.line(x, "ac");
        x.line();
        Check.due("empty ones", Check.printed(x), "bb\n" + "b".repeat(120) + "\n\n\n");
    }

    private static void countersArePrinted() {
        Check.sentence("9 counter a is printed");
        LineRules x = Check.withAction(9, 0, 0);
        x.action(0, 11, 7, Integer.MIN_VALUE);
        x.action(0, 9, 7, 0);
        x.line();
        Check.due("printed", Check.printed(x), "0\n-2147483648\n");
    }

    private static void noMoreRules() {
        Check.sentence("10 no more rules for this line (actions of its rule behind it are done)");
        LineRules x = new LineRules();
        x.rule(4, 1, 1);
        x.action(0, 10, 0, 0);
        x.action(0, 0, 0, 0);
        x.action(0, 10, 0, 0);
        x.action(0, 9, 1, 0);
        x.rule(0, 0, 0);
        x.action(1, 11, 1, 5);
        Check.due("a line that ends", Check.line(x, "1"), 1);
        Check.due("done behind it", Check.printed(x), "1\n0\n");
        Check.due("the next rule is not", x.counter(1), 0);
        Check.due("another line", Check.line(x, "2"), 1);
        Check.due("the next rule is", x.counter(1), 5);
        LineRules last = Check.withAction(10, 0, 0);
        Check.due("in the last rule", last.line(), 1);
        Check.due("for this line alone", last.line(), 1);
    }

    private static void countersBecome() {
        Check.sentence("11 counter a becomes b");
        for (int number : new int[] {Integer.MIN_VALUE, -1, 0, 1, Integer.MAX_VALUE}) {
            LineRules x = Check.withAction(11, 0, 3);
            x.action(0, 11, 7, 3);
            x.action(0, 11, 0, number);
            x.action(0, 11, 7, number);
            x.line();
            Check.due("counter 0", x.counter(0), number);
            Check.due("counter 7", x.counter(7), number);
            Check.due("counter 1", x.counter(1), 0);
        }
    }

    private static void lineNumbersGoToCounters() {
        Check.sentence("12 the line's number goes to counter a .. LINES have numbers 1, 2, ..");
        LineRules x = Check.withAction(12, 7, 0);
        x.action(0, 12, 0, 0);
        for (int line = 1; line <= 150; line++) {
            x.line();
            Check.due("counter 7", x.counter(7), line);
            Check.due("counter 0", x.counter(0), line);
        }
        LineRules late = new LineRules();
        late.line();
        late.line();
        late.rule(0, 0, 0);
        late.action(0, 12, 3, 0);
        late.line();
        Check.due("lines without rules have numbers, too", late.counter(3), 3);
        late.forget();
        late.rule(5, 4, 4);
        Check.due("and go on behind forget", late.line(), 1);
    }

    private static void oneAfterTheOther() {
        Check.sentence("ACTIONS, done one after the other");
        LineRules x = new LineRules();
        x.rule(0, 0, 0);
        x.action(0, 0, 0, 0);
        x.action(0, 4, 1, 2);
        x.action(0, 0, 0, 0);
        x.action(0, 12, 0, 0);
        x.action(0, 5, 2, 0);
        x.action(0, 2, 2, 0);
        x.action(0, 5, 3, 0);
        x.action(0, 0, 0, 0);
        Check.line(x, "a b");
        Check.due("printed", Check.printed(x), "a b\nb b\nb 1 2\n");
    }

    private static void linesToCome() {
        Check.sentence("Behind a change of rules, expressions, texts or separator the lines to come are done by them");
        LineRules x = Check.withExpression("a");
        Check.text(x, 0, "1");
        x.rule(0, 0, 0);
        x.action(0, 6, 0, 0);
        Check.line(x, "ab");
        Check.due("the first line", Check.row(x, 0), "1b");
        Check.expression(x, 0, "b");
        Check.line(x, "ab");
        Check.due("behind an expression", Check.row(x, 0), "a1");
        Check.text(x, 0, "2");
        Check.due("the latest line stays", Check.row(x, 0), "a1");
        Check.line(x, "ab");
        Check.due("behind a text", Check.row(x, 0), "a2");
        x.action(0, 4, 2, 1);
        Check.line(x, "ab");
        Check.due("behind an action", Check.row(x, 0), "a2 a2");
        x.separator(',');
        Check.line(x, "ab");
        Check.due("behind a separator", Check.row(x, 0), "a2,a2");
        x.forget();
        Check.line(x, "ab");
        Check.due("behind forget", Check.row(x, 0), "ab");
    }
}
