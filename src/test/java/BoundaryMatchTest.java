/** The boundary cases of what matches and of what is found: promises 11 and 12. */
public final class BoundaryMatchTest {
    public static void main(String[] args) {
        sequencesPart();
        anyNumberOfTimes();
        atLeastOnce();
        atMostOnce();
        anyOneSign();
        atTheBeginning();
        atTheEnd();
        itemsLieBetweenTwo();
        anySignBehindABackslash();
        theEmptyExpression();
        notBelowThePlace();
        theLongest();
        longestExpressions();
        numbersOfExpressions();
        placesOfThePad();
        endOfTheLatestFind();
        noFindNoEnd();
        Check.finish();
    }

    private static void found(String wanted, String text, int place, int begin, int end) {
        LineRules x = Check.feed(Check.withExpression(wanted), text);
        String what = "of " + wanted + " in " + text + " from " + place;
        Check.due("find " + what, x.find(0, place), begin);
        Check.due("end " + what, x.end(), end);
    }

    private static void notFound(String wanted, String text) {
        found(wanted, text, 0, -1, -1);
    }

    private static void sequencesPart() {
        Check.sentence("a sequence if it parts into matches of its pieces");
        found("", "", 0, 0, 0);
        found("ab", "ab", 0, 0, 2);
        notFound("ab", "a");
        notFound("ab", "ba");
        found("a*ab", "aaab", 0, 0, 4);
        found("(a|ab)(bc|c)", "abc", 0, 0, 3);
        found("()a()", "a", 0, 0, 1);
    }

    private static void anyNumberOfTimes() {
        Check.sentence("\"*\" any number of times");
        String most = "a".repeat(120);
        found("a*", "", 0, 0, 0);
        found("a*", "b", 0, 0, 0);
        found("a*", "a", 0, 0, 1);
        found("a*", most, 0, 0, 120);
        found("(ab)*", "ababa", 0, 0, 4);
        found("()*", "a", 0, 0, 0);
        found("(a*)*", most, 0, 0, 120);
        found("b*$", most, 0, 120, 120);
        found("(a|^)*b", "aab", 0, 0, 3);
    }

    private static void atLeastOnce() {
        Check.sentence("\"+\" at least once");
        String most = "a".repeat(120);
        notFound("a+", "");
        notFound("a+", "b");
        found("a+", "ba", 0, 1, 2);
        found("a+", most, 0, 0, 120);
        found("()+", "a", 1, 1, 1);
        found("(a*)+", "b", 0, 0, 0);
        found("(ab)+", "aabab", 0, 1, 5);
        found("$+", "a", 0, 1, 1);
    }

    private static void atMostOnce() {
        Check.sentence("\"?\" at most once");
        found("a?", "", 0, 0, 0);
        found("a?", "a", 0, 0, 1);
        found("a?", "aa", 0, 0, 1);
        found("ba?b", "bb", 0, 0, 2);
        found("ba?b", "bab", 0, 0, 3);
        notFound("ba?b", "baab");
        found("(aa)?", "a", 0, 0, 0);
        found("a??", "aa", 0, 0, 1);
        found("a?*", "aa", 0, 0, 2);
        found("a?+", "aa", 0, 0, 2);
    }

    private static void anyOneSign() {
        Check.sentence("\".\" any one sign");
        for (char sign = 1; sign <= 255; sign++) {
            found(".", "" + sign + sign, 0, 0, 1);
        }
        notFound(".", "");
        notFound("...", "ab");
        found(".", "ab", 1, 1, 2);
        found(".", "ab", 2, -1, -1);
    }

    private static void atTheBeginning() {
        Check.sentence("\"^\" nothing, if s is the text's beginning");
        found("^", "", 0, 0, 0);
        found("^", "ab", 0, 0, 0);
        found("^", "ab", 1, -1, -1);
        found("^", "ab", 2, -1, -1);
        found("^a", "aa", 0, 0, 1);
        found("^a", "aa", 1, -1, -1);
        notFound("a^", "aa");
        notFound("a^b", "ab");
        found("^^a", "a", 0, 0, 1);
        found("a^?b", "ab", 0, 0, 2);
        found("(b|^)a", "aba", 0, 0, 1);
        found("(b|^)a", "aba", 1, 1, 3);
        found("\\^", "a^", 0, 1, 2);
    }

    private static void atTheEnd() {
        Check.sentence("\"$\" nothing, if s is its end");
        found("$", "", 0, 0, 0);
        found("$", "ab", 0, 2, 2);
        found("$", "ab", 2, 2, 2);
        found("a$", "aa", 0, 1, 2);
        notFound("a$", "ab");
        notFound("$a", "a");
        notFound("a$b", "ab");
        found("a$$", "a", 0, 0, 1);
        found("^$", "", 0, 0, 0);
        notFound("^$", "a");
        found("$^", "", 0, 0, 0);
        found("a($|b)", "aab", 0, 1, 3);
        found("a$", "\na", 0, 1, 2);
        notFound("a$", "a\n");
        found("\\$", "a$", 0, 1, 2);
    }

    private static void itemsLieBetweenTwo() {
        Check.sentence("items one sign that is one of them or lies between two (with \"^\" one that is not)");
        for (char sign = 1; sign <= 255; sign++) {
            boolean between = sign >= 'b' && sign <= 'd' || sign == 'x';
            found("[b-dx]", "" + sign, 0, between ? 0 : -1, between ? 1 : -1);
            found("[^b-dx]", "" + sign, 0, between ? -1 : 0, between ? -1 : 1);
        }
        notFound("[a]", "");
        notFound("[^a]", "");
        found("[a-a]", "ba", 0, 1, 2);
        found("[\u0001-\u00ff]", "\u0001", 0, 0, 1);
        found("[\u0001-\u00ff]", "\u00ff", 0, 0, 1);
        notFound("[^\u0001-\u00ff]", "a");
        found("[^\u0001-\u007f]", "\u007f\u0080", 0, 1, 2);
        found("[a^]", "^", 0, 0, 1);
        notFound("[^^]", "^");
        found("[[-^]", "]", 0, 0, 1);
        found("[*-.]", "-", 0, 0, 1);
    }

    private static void anySignBehindABackslash() {
        Check.sentence("\"\\\" any sign");
        for (char sign = 1; sign <= 255; sign++) {
            char other = sign == 255 ? 1 : (char) (sign + 1);
            found("\\" + sign, "" + other + sign, 0, 1, 2);
        }
    }

    private static void theEmptyExpression() {
        Check.sentence("At first an expression is the empty text, which matches nothing anywhere");
        for (int k = 0; k < 6; k++) {
            LineRules x = new LineRules();
            Check.due("find " + k + " in the empty pad", x.find(k, 0), 0);
            Check.due("its end", x.end(), 0);
            Check.feed(x, "abc");
            for (int place = 0; place <= 3; place++) {
                Check.due("find " + k + " from " + place, x.find(k, place), place);
                Check.due("its end", x.end(), place);
            }
        }
    }

    private static void notBelowThePlace() {
        Check.sentence("the least s, not below the place, from which some part matches");
        found("a", "aba", 0, 0, 1);
        found("a", "aba", 1, 2, 3);
        found("a", "aba", 2, 2, 3);
        found("a", "aba", 3, -1, -1);
        found("aba", "ababa", 1, 2, 5);
        found("a+", "aaa", 1, 1, 3);
        found("b|a*", "cb", 0, 0, 0);
        found("b|cd|c*d", "acdb", 0, 1, 3);
    }

    private static void theLongest() {
        Check.sentence("and of these the longest");
        found("a|ab|abc", "abcd", 0, 0, 3);
        found("abc|ab|a", "abd", 0, 0, 2);
        found("|a", "a", 0, 0, 1);
        found("(a|ab)(c|bcd)?", "abcd", 0, 0, 4);
        found("a*(ab)?", "aab", 0, 0, 3);
        found("(a|ab)*", "abaab", 0, 0, 5);
        found("a.*b", "acbcbc", 0, 0, 5);
    }

    private static void longestExpressions() {
        Check.sentence("EXPRESSIONS 0 .. 5 are made of texts of at most 60 signs");
        String many = "a".repeat(120);
        found("a".repeat(60), many, 60, 60, 120);
        found("a".repeat(60), many, 61, -1, -1);
        found("a".repeat(59) + "b", many.substring(1) + "b", 0, 60, 120);
        found("a?".repeat(30), many, 0, 0, 30);
        found("(a|b)".repeat(12), many, 0, 0, 12);
        found("a|".repeat(30), "b", 0, 0, 0);
        found("b|".repeat(29) + "aa", many, 118, 118, 120);
        found("[" + "b".repeat(57) + "a]", "ca", 0, 1, 2);
    }

    private static void numbersOfExpressions() {
        Check.sentence("find: NoSuchElementException: k");
        LineRules x = new LineRules();
        for (int k = -2; k <= 8; k++) {
            int number = k;
            Object want = k < 0 || k > 5 ? "throws NoSuchElementException" : 0;
            Check.due("find(" + k + ", 0)", Check.answer(() -> x.find(number, 0)), want);
        }
        Check.refused("find of the greatest", Check.NO_SUCH, () -> x.find(Integer.MAX_VALUE, 0));
        Check.refused("find of the least", Check.NO_SUCH, () -> x.find(Integer.MIN_VALUE, 0));
    }

    private static void placesOfThePad() {
        Check.sentence("or the place is not 0 .. the pad's length");
        for (int length : new int[] {0, 1, 2, 119, 120}) {
            LineRules x = Check.feed(new LineRules(), "a".repeat(length));
            Check.due("place 0 of " + length, x.find(0, 0), 0);
            Check.due("the last place of " + length, x.find(0, length), length);
            Check.refused("a place behind " + length, Check.NO_SUCH, () -> x.find(0, length + 1));
            Check.refused("place -1 of " + length, Check.NO_SUCH, () -> x.find(0, -1));
            Check.refused("the least place", Check.NO_SUCH, () -> x.find(0, Integer.MIN_VALUE));
            Check.refused("the greatest place", Check.NO_SUCH, () -> x.find(0, Integer.MAX_VALUE));
        }
        Check.sentence("where it begins; NONE if it is not found");
        LineRules x = Check.feed(Check.withExpression("b"), "aab");
        Check.due("found at the last sign", x.find(0, 2), 2);
        Check.due("not found at the end", x.find(0, 3), LineRules.NONE);
        Check.due("the pad stays", x.count(0), 3);
    }

    private static void endOfTheLatestFind() {
        Check.sentence("Where the match of the latest find() that found one ended");
        LineRules x = Check.feed(Check.withExpression("b+"), "abbab");
        x.find(0, 0);
        Check.due("the end of the first", x.end(), 3);
        Check.due("asked again", x.end(), 3);
        Check.refused("a refused find", Check.NO_SUCH, () -> x.find(6, 0));
        Check.refused("another refused find", Check.NO_SUCH, () -> x.find(0, 6));
        Check.due("the end stays", x.end(), 3);
        x.find(0, 3);
        Check.due("the end of the second", x.end(), 5);
        x.clear();
        Check.due("behind clear", x.end(), 5);
        Check.expression(x, 0, "c");
        Check.due("behind a new expression", x.end(), 5);
        Check.line(x, "c");
        Check.due("behind a line", x.end(), 5);
    }

    private static void noFindNoEnd() {
        Check.sentence("NONE if there was none, or the latest found none");
        LineRules x = Check.withExpression("b");
        Check.due("without a find", x.end(), LineRules.NONE);
        Check.refused("a refused find", Check.NO_SUCH, () -> x.find(0, 1));
        Check.due("behind a refused find", x.end(), LineRules.NONE);
        x.rule(1, 1, 0);
        x.action(0, 8, 1, 0);
        Check.line(x, "b");
        Check.due("behind what a rule found", x.end(), LineRules.NONE);
        Check.feed(x, "ab").find(0, 0);
        Check.due("one was found", x.end(), 2);
        x.find(0, 2);
        Check.due("the latest found none", x.end(), LineRules.NONE);
        x.find(1, 0);
        Check.due("an empty one at the beginning", x.end(), 0);
    }
}
