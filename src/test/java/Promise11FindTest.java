public final class Promise11FindTest {
    public static void main(String[] args) {
        wrongNumbersAndPlaces();
        signs();
        edges();
        repeats();
        groups();
        items();
        longest();
        emptyRepeats();
        longTexts();
        Check.finish();
    }

    private static void wrongNumbersAndPlaces() {
        LineRules x = Check.feed(Check.withExpression("b"), "ab");
        Check.due("find", x.find(0, 0), 1);
        for (int k : new int[] {-1, 6, Integer.MIN_VALUE, Integer.MAX_VALUE}) {
            Check.refused("find " + k, Check.NO_SUCH, () -> x.find(k, 0));
        }
        for (int place : new int[] {-1, 3, Integer.MIN_VALUE, Integer.MAX_VALUE}) {
            Check.refused("place " + place, Check.NO_SUCH, () -> x.find(0, place));
        }
        Check.due("the end stays", x.end(), 2);
        Check.due("at the pad's end", x.find(0, 2), -1);
        Check.due("the pad stays", x.count(0), 2);
    }

    private static void found(String wanted, String text, int place, int begin, int end) {
        LineRules x = Check.feed(Check.withExpression(wanted), text);
        String what = "of " + wanted + " in " + text + " from " + place;
        Check.due("find " + what, x.find(0, place), begin);
        Check.due("end " + what, x.end(), end);
    }

    private static void signs() {
        found("a", "bab", 0, 1, 2);
        found("a", "bab", 1, 1, 2);
        found("a", "bab", 2, -1, -1);
        found("ab", "aab", 0, 1, 3);
        found(".", "\n", 0, 0, 1);
        found("..", "a", 0, -1, -1);
        found("\\.", "a.", 0, 1, 2);
        found("\\\\\\a", "\\a", 0, 0, 2);
        found("\\*\\(", "a*(", 0, 1, 3);
        found("\u00ff\u0001", "\u0001\u00ff\u0001", 0, 1, 3);
        found("a", "A", 0, -1, -1);
        found("-", "a-", 0, 1, 2);
    }

    private static void edges() {
        found("^", "ab", 0, 0, 0);
        found("^", "ab", 1, -1, -1);
        found("$", "ab", 0, 2, 2);
        found("^$", "", 0, 0, 0);
        found("^$", "a", 0, -1, -1);
        found("$^", "", 0, 0, 0);
        found("^b", "ab", 0, -1, -1);
        found("^b", "ab", 1, -1, -1);
        found("a$", "aab", 0, -1, -1);
        found("a$", "aaa", 0, 2, 3);
        found("a^b", "ab", 0, -1, -1);
        found("a$b", "ab", 0, -1, -1);
        found("a^*b$*", "ab", 0, 0, 2);
        found("a$?b", "ab", 0, 0, 2);
        found("(^|b)a", "aba", 0, 0, 1);
        found("(^|b)a", "aba", 1, 1, 3);
        found("a(b|$)", "aab", 0, 1, 3);
        found("a(b|$)", "aaca", 0, 3, 4);
        found("(^a)*", "aaa", 0, 0, 1);
        found("(a$)+", "aaa", 0, 2, 3);
        found("^^a$$", "a", 0, 0, 1);
        found("(^a|b)*c", "abac", 0, 3, 4);
        found("(^a|b)*c", "abbc", 0, 0, 4);
        found("x*^y", "xy", 0, -1, -1);
        found("x*^y", "yy", 0, 0, 1);
    }

    private static void repeats() {
        found("a*", "aab", 0, 0, 2);
        found("a*", "baa", 0, 0, 0);
        found("a*", "baa", 1, 1, 3);
        found("a+", "baa", 0, 1, 3);
        found("a+", "b", 0, -1, -1);
        found("ba?", "baa", 0, 0, 2);
        found("ba?", "b", 0, 0, 1);
        found("a**", "aab", 0, 0, 2);
        found("a+?", "baa", 0, 0, 0);
        found("a?+", "aab", 0, 0, 2);
        found("a??b", "aab", 0, 1, 3);
        found("ab*c", "acabbc", 0, 0, 2);
        found("ab*c", "abdabbc", 0, 3, 7);
        found("ab+c", "acabbc", 0, 2, 6);
    }

    private static void groups() {
        found("a|b", "cb", 0, 1, 2);
        found("(ab)*", "ababa", 0, 0, 4);
        found("(ab)+c", "abcababc", 1, 3, 8);
        found("(a|bc)d", "abcd", 0, 1, 4);
        found("()", "a", 0, 0, 0);
        found("(|a)b", "ab", 0, 0, 2);
        found("|", "a", 1, 1, 1);
        found("a|", "ba", 0, 0, 0);
        found("((a)(b|c))+", "abacad", 0, 0, 4);
        found("((((((((((a*))))))))))b", "caab", 0, 1, 4);
        found("(a(b(c)?)?)*d", "abcabad", 0, 0, 7);
    }

    private static void items() {
        found("[abc]", "dcb", 0, 1, 2);
        found("[a-c]+", "dabcd", 0, 1, 4);
        found("[^a-c]+", "adeb", 0, 1, 3);
        found("[^a]", "aaa", 0, -1, -1);
        found("[^a]", "a\n", 0, 1, 2);
        found("[^a]", "a\u0001", 0, 1, 2);
        found("[^a]", "a\u00ff", 0, 1, 2);
        found(".", "\u0001", 0, 0, 1);
        found(".", "\u00ff", 0, 0, 1);
        found("[a^]+", "b^a", 0, 1, 3);
        found("[^^]", "^a", 0, 1, 2);
        found("[[.*$]+", "a$*.[", 0, 1, 5);
        found("[a-cx-z]+", "dazd", 0, 1, 3);
        found("[a-a]", "ba", 0, 1, 2);
        found("[ac-e]+", "bacdef", 0, 1, 5);
        found("[^a-cb-d]", "abcde", 0, 4, 5);
        found("[\u0001-\u00ff]*", "\u0001a\u00ff", 0, 0, 3);
        found("[^\u0001-\u00fe]", "\u00fe\u00ff", 0, 1, 2);
        found("[0-9]+\\.[0-9]", "1.x22.33", 0, 3, 7);
    }

    private static void longest() {
        found("a|ab", "ab", 0, 0, 2);
        found("a|ab|abc", "abcd", 0, 0, 3);
        found("(a|ab)(c|bcd)", "abcd", 0, 0, 4);
        found("(a|ab)(bcd|c)?", "abc", 0, 0, 3);
        found("b|abcd|bc", "abce", 0, 1, 3);
        found("a*|b", "baa", 0, 0, 1);
        found("(a|aa)*b?", "aaab", 0, 0, 4);
        found("x(a|b)*a", "xbabb", 0, 0, 3);
    }

    private static void emptyRepeats() {
        found("()*", "a", 0, 0, 0);
        found("(a*)*", "aab", 0, 0, 2);
        found("(a*)+b", "aab", 0, 0, 3);
        found("(a?b?)*c", "abbac", 0, 0, 5);
        found("((a*)*)*", "aaa", 1, 1, 3);
        found("(^)*a", "ba", 0, 1, 2);
        found("(^)+a", "ba", 0, -1, -1);
        found("($)*", "ba", 0, 0, 0);
        found("(|a)+", "aaa", 0, 0, 3);
        found("(a|b*)*c", "abbabc", 0, 0, 6);
    }

    private static void longTexts() {
        String many = "a".repeat(120);
        found("a*", many, 0, 0, 120);
        found("a*", many, 120, 120, 120);
        found("a$", many, 0, 119, 120);
        found("a*b", many, 0, -1, -1);
        found("a?".repeat(30), many, 3, 3, 33);
        found("(a*)*".repeat(12), many, 7, 7, 120);
        found("((((((((((a*)*b?)*)*c?)*)*)*d?)*)*)*)*e", many, 0, -1, -1);
        found(".".repeat(60), many, 60, 60, 120);
        found(".".repeat(60), many, 61, -1, -1);
    }
}
