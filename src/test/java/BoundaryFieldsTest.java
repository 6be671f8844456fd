/** The boundary cases of fields, of the separator and of numbers: promises 6, 13 and 15. */
public final class BoundaryFieldsTest {
    public static void main(String[] args) {
        separatorsAreSigns();
        blanksAtFirst();
        longestPartsWithoutABlank();
        partsBetweenOthers();
        noneInAnEmptyLine();
        atMostThirty();
        linesToCome();
        numbersOfTexts();
        numbersWrapRound();
        zeroWithoutDigits();
        textsOfNumbers();
        countersAreEight();
        signsOfNoLine();
        signsOfTheLine();
        signsOfFields();
        asItIsNow();
        Check.finish();
    }

    private static void separatorsAreSigns() {
        Check.sentence("IllegalArgumentException: it is no sign");
        for (int sign : new int[] {Integer.MIN_VALUE, -255, -1, 0, 256, 257, 512 + 32, Integer.MAX_VALUE}) {
            LineRules x = new LineRules();
            Check.refused("separator " + sign, Check.ARGUMENT, () -> x.separator(sign));
            Check.due("what it still is", x.separator(1), 32);
        }
        LineRules x = new LineRules();
        int was = 32;
        for (int sign = 1; sign <= 255; sign++) {
            Check.due("separator " + sign, x.separator(sign), was);
            was = sign;
        }
    }

    private static void fieldsAre(int separator, String line, String fields) {
        LineRules x = new LineRules();
        x.separator(separator);
        Check.line(x, line);
        Check.due("fields of " + line, Check.fields(x), fields);
        Check.due("the line itself", Check.row(x, 0), line);
    }

    private static void blanksAtFirst() {
        Check.sentence("the SEPARATOR is a sign (32 at first)");
        LineRules x = new LineRules();
        Check.line(x, "a,b c");
        Check.due("fields", Check.fields(x), "<a,b><c>");
        Check.due("separator", x.separator(44), 32);
    }

    private static void longestPartsWithoutABlank() {
        Check.sentence("If it is 32, fields are the longest parts without it");
        fieldsAre(32, " ", "");
        fieldsAre(32, " ".repeat(120), "");
        fieldsAre(32, "a", "<a>");
        fieldsAre(32, " a", "<a>");
        fieldsAre(32, "a ", "<a>");
        fieldsAre(32, "  ab   c  ", "<ab><c>");
        fieldsAre(32, "a\tb\u00a0c", "<a\tb\u00a0c>");
        fieldsAre(32, "a".repeat(120), "<" + "a".repeat(120) + ">");
        fieldsAre(32, " ".repeat(119) + "a", "<a>");
    }

    private static void partsBetweenOthers() {
        Check.sentence("else the parts between any two of it, the beginning and the end");
        fieldsAre(',', "a", "<a>");
        fieldsAre(',', " ", "< >");
        fieldsAre(',', ",", "<><>");
        fieldsAre(',', ",,", "<><><>");
        fieldsAre(',', ",a", "<><a>");
        fieldsAre(',', "a,", "<a><>");
        fieldsAre(',', "a, b,,c", "<a>< b><><c>");
        fieldsAre(31, "a\u001fb c", "<a><b c>");
        fieldsAre(33, "a!!b", "<a><><b>");
        fieldsAre(255, "\u00ff", "<><>");
        fieldsAre(1, "\u0001", "<><>");
        fieldsAre(',', "a".repeat(120), "<" + "a".repeat(120) + ">");
        fieldsAre(',', "a".repeat(119) + ",", "<" + "a".repeat(119) + "><>");
    }

    private static void noneInAnEmptyLine() {
        Check.sentence("(none in an empty line)");
        for (int separator : new int[] {1, 32, 44, 255}) {
            fieldsAre(separator, "", "");
            LineRules x = new LineRules();
            x.separator(separator);
            Check.line(x, "a");
            x.line();
            Check.due("fields of an empty line behind another", x.count(3), 0);
            Check.refused("its field 1", Check.NO_SUCH, () -> x.sign(1, -1));
        }
    }

    private static void atMostThirty() {
        Check.sentence("At most 30; what is behind the thirtieth is none");
        for (int count = 28; count <= 32; count++) {
            int kept = Math.min(30, count);
            fieldsAre(32, "a ".repeat(count), "<a>".repeat(kept));
            fieldsAre(32, "b " + " a".repeat(count - 1), "<b>" + "<a>".repeat(kept - 1));
            fieldsAre(',', "a" + ",a".repeat(count - 1), "<a>".repeat(kept));
            fieldsAre(',', ",".repeat(count - 1), "<>".repeat(kept));
        }
        fieldsAre(32, "a ".repeat(29) + "bc de", "<a>".repeat(29) + "<bc>");
        fieldsAre(',', "a,".repeat(29) + "bc,de", "<a>".repeat(29) + "<bc>");
        fieldsAre(',', ",".repeat(120), "<>".repeat(30));
        fieldsAre(32, "a ".repeat(60), "<a>".repeat(30));
        LineRules x = Check.withAction(1, 30, 0);
        x.rule(6, 29, 0);
        x.rule(6, 30, 0);
        Check.due("rules for a line of 31 fields", Check.line(x, "a ".repeat(30) + "b"), 2);
        Check.due("the thirtieth", Check.printed(x), "a\n");
    }

    private static void linesToCome() {
        Check.sentence("Behind a change of .. separator the lines to come are done by them");
        LineRules x = new LineRules();
        Check.line(x, "a b,c");
        x.separator(',');
        Check.due("fields of the line before", Check.fields(x), "<a><b,c>");
        Check.line(x, "a b,c");
        Check.due("fields of the line to come", Check.fields(x), "<a b><c>");
        x.separator(32);
        Check.due("they stay", Check.fields(x), "<a b><c>");
    }

    private static void number(String text, int want) {
        LineRules x = Check.withAction(2, 1, 7);
        x.separator(1);
        Check.line(x, text);
        Check.due("the number of " + text, x.counter(7), want);
    }

    private static void numbersOfTexts() {
        Check.sentence("THE NUMBER of a text: the digits at its beginning, behind a \"-\" if there is one");
        number("0", 0);
        number("9", 9);
        number("-9", -9);
        number("-0", 0);
        number("007", 7);
        number("-007", -7);
        number("12x34", 12);
        number("12-34", 12);
        number("12 34", 12);
        number("1.9", 1);
        number("5/", 5);
        number("5:", 5);
        number("-5-", -5);
        number("0".repeat(119) + "8", 8);
    }

    private static void numbersWrapRound() {
        Check.sentence("as a number that wraps round");
        number("2147483647", Integer.MAX_VALUE);
        number("2147483648", Integer.MIN_VALUE);
        number("2147483649", Integer.MIN_VALUE + 1);
        number("-2147483647", -Integer.MAX_VALUE);
        number("-2147483648", Integer.MIN_VALUE);
        number("-2147483649", Integer.MAX_VALUE);
        number("4294967295", -1);
        number("4294967296", 0);
        number("4294967297", 1);
        number("-4294967297", -1);
        number("99999999999999999999", new java.math.BigInteger("99999999999999999999").intValue());
        number("9".repeat(120), new java.math.BigInteger("9".repeat(120)).intValue());
        number("-" + "7".repeat(119), new java.math.BigInteger("-" + "7".repeat(119)).intValue());
    }

    private static void zeroWithoutDigits() {
        Check.sentence("0 without digits");
        for (String text : new String[] {"", "-", "--5", "- 5", "+5", " 5", "x", "x5", "-x5", "/", ":", ".5"}) {
            number(text, 0);
        }
    }

    private static void textsOfNumbers() {
        Check.sentence("The text of a number: its digits, with a \"-\" ahead if it is below 0");
        int[] numbers = {
            0, 1, 9, 10, 99, 100, 999_999_999, 1_000_000_000, 1_000_000_001, Integer.MAX_VALUE,
            -1, -9, -10, -100, -1_000_000_000, Integer.MIN_VALUE + 1, Integer.MIN_VALUE,
        };
        for (int number : numbers) {
            LineRules x = Check.withAction(11, 0, number);
            x.action(0, 9, 0, 0);
            x.action(0, 5, 1, 0);
            x.line();
            Check.due("printed", Check.printed(x), number + "\n");
            Check.due("field 1", Check.row(x, 1), "" + number);
            Check.due("the line", Check.row(x, 0), "" + number);
        }
    }

    private static void countersAreEight() {
        Check.sentence("COUNTERS are 0 .. 7 (0 at first)");
        LineRules x = new LineRules();
        for (int k = -2; k <= 10; k++) {
            int number = k;
            Object want = k < 0 || k > 7 ? "throws NoSuchElementException" : 0;
            Check.due("counter(" + k + ")", Check.answer(() -> x.counter(number)), want);
        }
        Check.refused("the least", Check.NO_SUCH, () -> x.counter(Integer.MIN_VALUE));
        Check.refused("the greatest", Check.NO_SUCH, () -> x.counter(Integer.MAX_VALUE));
    }

    private static void refused(LineRules x, int field, int j) {
        Check.refused("sign(" + field + ", " + j + ")", Check.NO_SUCH, () -> x.sign(field, j));
    }

    private static void signsOfNoLine() {
        Check.sentence("(field 0; without signs before any line)");
        LineRules x = Check.feed(new LineRules(), "ab");
        Check.due("how many", x.sign(0, -1), 0);
        refused(x, 0, 0);
        refused(x, 1, -1);
        refused(x, 1, 0);
        refused(x, -1, -1);
        x.line();
        Check.due("how many behind a line", x.sign(0, -1), 2);
    }

    private static void signsOfTheLine() {
        Check.sentence("sign j; j = -1: how many there are .. there is no such field or sign: of the line");
        LineRules x = new LineRules();
        x.line();
        Check.due("signs of an empty line", x.sign(0, -1), 0);
        refused(x, 0, 0);
        Check.line(x, "\u00ff" + "a".repeat(118) + "\u0001");
        Check.due("signs of a full line", x.sign(0, -1), 120);
        Check.due("its first sign", x.sign(0, 0), 255);
        Check.due("its last sign", x.sign(0, 119), 1);
        for (int j : new int[] {Integer.MIN_VALUE, -3, -2, 120, Integer.MAX_VALUE}) {
            refused(x, 0, j);
        }
        Check.line(x, "abc");
        Check.due("the last sign of a shorter line", x.sign(0, 2), 99);
        refused(x, 0, 3);
    }

    private static void signsOfFields() {
        Check.sentence("sign j; j = -1: how many there are .. there is no such field or sign: of a field");
        LineRules x = new LineRules();
        x.separator(',');
        Check.line(x, "ab,,c" + ",".repeat(27));
        Check.due("signs of field 1", x.sign(1, -1), 2);
        Check.due("the last sign of field 1", x.sign(1, 1), 98);
        refused(x, 1, 2);
        refused(x, 1, -2);
        Check.due("signs of an empty field", x.sign(2, -1), 0);
        refused(x, 2, 0);
        Check.due("signs of field 30", x.sign(30, -1), 0);
        for (int field : new int[] {Integer.MIN_VALUE, -1, 31, 32, Integer.MAX_VALUE}) {
            refused(x, field, -1);
            refused(x, field, 0);
        }
        Check.line(x, "a,b");
        Check.due("the last field of a shorter line", x.sign(2, 0), 98);
        refused(x, 3, -1);
        refused(x, 2, 1);
    }

    private static void asItIsNow() {
        Check.sentence("Of the latest line, as it is now");
        LineRules x = Check.withAction(5, 3, 0);
        Check.line(x, "a");
        Check.due("the line", Check.row(x, 0), "a  0");
        Check.due("its fields", Check.fields(x), "<a><><0>");
        Check.feed(x, "pad");
        x.clear();
        x.forget();
        x.separator(',');
        Check.due("the line still", Check.row(x, 0), "a  0");
        Check.due("its fields still", Check.fields(x), "<a><><0>");
    }
}
