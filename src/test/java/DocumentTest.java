/** The document from its first line to its last: the sentences that no other test quotes. */
public final class DocumentTest {
    public static void main(String[] args) {
        whatItIs();
        fieldsWithoutRules();
        rowsOfSigns();
        theSecondSignIsLess();
        toFindFromAPlaceOn();
        rulesAreNumbered();
        actionsOfEachRule();
        theLineIsPrinted();
        signsComeBehindThePad();
        whatTheSeparatorWas();
        thereIsNoSuchThing();
        oneOfItsFields();
        signsOfAllThatWasPrinted();
        intsOfKeys();
        Check.finish();
    }

    private static void whatItIs() {
        Check.sentence("Lines are cut into fields and given to rules, each with a pattern and with what is done for"
            + " lines that have it: fields are printed, summed, counted by their texts, set, parts of the line found"
            + " by expressions and replaced");
        LineRules x = Check.withExpression("^#");
        Check.expression(x, 1, "o");
        Check.text(x, 0, "0");
        x.rule(1, 0, 0);
        x.action(0, 10, 0, 0);
        x.rule(3, 2, 0);
        x.action(1, 2, 2, 1);
        x.action(1, 1, 1, 0);
        x.rule(6, 1, 0);
        x.action(2, 2, 2, 0);
        x.action(2, 3, 1, 1);
        x.rule(2, 1, 1);
        x.action(3, 7, 1, 0);
        x.action(3, 4, 3, 1);
        x.action(3, 0, 0, 0);
        Check.due("a note", Check.line(x, "# note 4"), 1);
        Check.due("tools", Check.line(x, "tools 12"), 2);
        Check.due("food", Check.line(x, "food -5"), 3);
        Check.due("more tools", Check.line(x, "tools 7 x"), 2);
        Check.due("rent", Check.line(x, "rent"), 0);
        Check.due("printed", Check.printed(x), "t00ls 12 t00ls\nfood\nf00d -5 f00d\nt00ls 7 t00ls\n");
        Check.due("summed", x.counter(0), 14);
        Check.due("summed below 0", x.counter(1), -5);
        Check.due("counted", Check.table(x), "food=1 tools=2 ");
        Check.due("the latest line", Check.row(x, 0), "rent");
    }

    private static void fieldsWithoutRules() {
        Check.sentence("Lines are cut into fields: with no rules, too");
        LineRules x = new LineRules();
        Check.due("rules that had it", Check.line(x, "a bc  d"), 0);
        Check.due("fields", Check.fields(x), "<a><bc><d>");
        Check.due("nothing printed", x.count(4), 0);
        Check.due("no keys", x.count(5), 0);
    }

    private static String signs(int from, int to) {
        StringBuilder signs = new StringBuilder();
        for (int sign = from; sign <= to; sign++) {
            signs.append((char) sign);
        }
        return signs.toString();
    }

    private static void rowsOfSigns() {
        Check.sentence("LINES, fields and printed pieces are rows of signs, too");
        for (int from = 1; from <= 255; from += 51) {
            String row = signs(from, from + 50);
            char separator = (char) (from == 1 ? 255 : 1);
            LineRules x = Check.withExpression(".*");
            x.separator(separator);
            x.rule(0, 0, 0);
            x.action(0, 3, 1, 1);
            x.action(0, 8, 0, 0);
            x.action(0, 4, 2, 1);
            x.action(0, 1, 2, 0);
            Check.line(x, row);
            Check.due("the line from " + from, Check.row(x, 0), row + separator + row);
            Check.due("its second field", Check.row(x, 2), row);
            Check.due("printed pieces", Check.printed(x), row + "\n" + row + "\n");
            Check.due("the length of its key", x.key(0, -1), 51);
            Check.due("the first sign of its key", x.key(0, 0), from);
            Check.due("the last sign of its key", x.key(0, 50), from + 50);
        }
        for (int from = 1; from <= 255; from += 51) {
            LineRules x = Check.withAction(6, 0, 0);
            Check.text(x, 0, signs(from, from + 50));
            x.line();
            Check.due("a text from " + from, Check.row(x, 0), signs(from, from + 50));
        }
    }

    private static void theSecondSignIsLess() {
        Check.sentence("or the second sign of an item that is less than the first");
        for (int first = 'a'; first <= 'z'; first++) {
            for (int second = 'a'; second <= 'z'; second++) {
                String text = "x[" + (char) first + "-" + (char) second + "]";
                int answer = Check.feed(new LineRules(), text).expression(0);
                Check.due(text, answer, second < first ? 5 : 0);
            }
        }
        Check.due("of the second item", Check.feed(new LineRules(), "[a-bd-c]").expression(0), 7);
        Check.due("the first one alone counts", Check.feed(new LineRules(), "[b-a*]*)").expression(0), 4);
    }

    private static void toFindFromAPlaceOn() {
        Check.sentence("TO FIND an expression from a place on .. Finds an expression in the pad from a place on");
        LineRules x = Check.withExpression("ab?");
        Check.feed(x, "abcaab");
        int[] begins = {0, 3, 3, 3, 4, -1, -1};
        int[] ends = {2, 4, 4, 4, 6, -1, -1};
        for (int place = 0; place <= 6; place++) {
            Check.due("from " + place, x.find(0, place), begins[place]);
            Check.due("its end from " + place, x.end(), ends[place]);
        }
        Check.due("the pad stays", x.count(0), 6);
        x.line();
        Check.due("as it was", Check.row(x, 0), "abcaab");
    }

    private static void rulesAreNumbered() {
        Check.sentence("RULES are 0, 1, .. .. A rule behind the others: its number");
        LineRules x = new LineRules();
        for (int r = 0; r < 12; r++) {
            Check.due("rule " + r, x.rule(5, r + 1, 12), r);
            x.action(r, 11, r % 8, r);
            x.action(r, 9, r % 8, 0);
        }
        StringBuilder all = new StringBuilder();
        for (int line = 1; line <= 12; line++) {
            Check.due("rules of line " + line, x.line(), line);
            for (int r = 0; r < line; r++) {
                all.append(r).append('\n');
            }
        }
        Check.due("the lesser number first", Check.printed(x), all.toString());
    }

    private static void actionsOfEachRule() {
        Check.sentence("An action behind the others of a rule: how many there are");
        LineRules x = new LineRules();
        for (int r = 0; r < 3; r++) {
            x.rule(4, 1, r);
        }
        for (int n = 1; n <= 4; n++) {
            for (int r = 2; r >= 0; r--) {
                Check.due("action " + n + " of rule " + r, x.action(r, 11, n, 10 * r + n), n);
            }
        }
        Check.line(x, "1");
        for (int n = 1; n <= 4; n++) {
            Check.due("counter " + n, x.counter(n), 10 + n);
        }
    }

    private static void theLineIsPrinted() {
        Check.sentence("0 the line is printed");
        LineRules x = Check.withExpression("b");
        x.rule(0, 0, 0);
        x.action(0, 0, 0, 0);
        x.action(0, 6, 0, 0);
        x.action(0, 0, 0, 0);
        x.action(0, 4, 3, 1);
        x.rule(0, 0, 0);
        x.action(1, 0, 0, 0);
        Check.line(x, " ab  b ");
        Check.due("as it is then", Check.printed(x), " ab  b \n a  b \na b a\n");
        LineRules most = Check.withAction(0, 0, 0);
        Check.line(most, "x".repeat(120));
        Check.due("all of it", Check.printed(most), "x".repeat(120) + "\n");
    }

    private static void signsComeBehindThePad() {
        Check.sentence("Signs come behind the pad: .. how many there are");
        LineRules x = new LineRules();
        Check.due("the first ones", x.feed(0x6261, 0, 0, 0, 0), 2);
        Check.due("one behind them", x.feed(0, 0, 0x5b, 0, 0), 3);
        Check.due("a fault leaves them", x.expression(0), 4);
        Check.due("more behind them", x.feed(0x63, 0, 0, 0, 0x645d), 6);
        Check.due("no more", x.feed(0, 0, 0, 0, 0), 6);
        x.find(0, 0);
        Check.due("behind a find", x.feed(0, 0x65, 0, 0, 0), 7);
        x.line();
        Check.due("in their order", Check.row(x, 0), "ab[c]de");
        Check.due("a pad that was emptied", x.feed(0x66, 0, 0, 0, 0), 1);
    }

    private static void whatTheSeparatorWas() {
        Check.sentence("The separator: what it was");
        LineRules x = new LineRules();
        int was = 32;
        for (int sign = 1; sign <= 255; sign++) {
            Check.due("separator " + sign, x.separator(sign), was);
            was = sign;
        }
        Check.refused("no sign", Check.ARGUMENT, () -> x.separator(256));
        Check.due("what it was stays", x.separator(255), 255);
    }

    private static void thereIsNoSuchThing() {
        Check.sentence("NoSuchElementException: there is no such thing");
        LineRules x = new LineRules();
        Check.refused("expression 6", Check.NO_SUCH, () -> x.expression(6));
        Check.refused("text 6", Check.NO_SUCH, () -> x.text(6));
        Check.refused("pattern 7", Check.NO_SUCH, () -> x.rule(7, 0, 0));
        Check.refused("rule 0", Check.NO_SUCH, () -> x.action(0, 0, 0, 0));
        Check.refused("place 1", Check.NO_SUCH, () -> x.find(0, 1));
        Check.refused("field 1", Check.NO_SUCH, () -> x.sign(1, -1));
        Check.refused("printed 0", Check.NO_SUCH, () -> x.printed(0));
        Check.refused("counter 8", Check.NO_SUCH, () -> x.counter(8));
        Check.refused("key 0", Check.NO_SUCH, () -> x.key(0, -2));
    }

    private static void oneOfItsFields() {
        Check.sentence("or one of its fields: sign j");
        LineRules x = new LineRules();
        Check.line(x, "a bc def");
        Check.refused("field 4", Check.NO_SUCH, () -> x.sign(4, -1));
        for (int field = 1; field <= 3; field++) {
            Check.due("length of field " + field, x.sign(field, -1), field);
            Check.due("last sign of field " + field, x.sign(field, field - 1), (int) "acf".charAt(field - 1));
        }
    }

    private static void signsOfAllThatWasPrinted() {
        Check.sentence("Sign i of all that was printed");
        LineRules x = Check.withAction(1, 2, 0);
        x.action(0, 9, 0, 0);
        Check.line(x, "a bc");
        Check.line(x, "d");
        String all = "bc\n0\n\n0\n";
        for (int i = 0; i < all.length(); i++) {
            Check.due("sign " + i, x.printed(i), (int) all.charAt(i));
        }
        Check.due("signs printed in all", x.count(4), all.length());
    }

    private static void intsOfKeys() {
        Check.sentence("Of the k-th key (from 0, by less): .. j = -2: its int");
        LineRules x = Check.withAction(3, 1, 2);
        x.action(0, 3, 2, -3);
        Check.line(x, "b a");
        Check.line(x, "c b");
        Check.line(x, "a c");
        Check.line(x, "a c");
        int[] ints = {1, -1, -4};
        for (int k = 0; k < 3; k++) {
            Check.due("int of key " + k, x.key(k, -2), ints[k]);
        }
    }
}
