import java.util.Random;
import java.util.regex.Matcher;
import java.util.regex.Pattern;

/**
 * What find() answers is compared with Java's own expressions. Those prefer no longest match, but tell of a part of a
 * text whether it matches: so every part is asked, the longer ones first.
 */
public final class RegexTest {
    private static final int EXPRESSIONS = 20_000;
    private static final int TEXTS_OF_EACH = 6;
    /** Java's own way takes too long for more of them. */
    private static final int REPEATS_MOST = 4;
    private static final int SIGNS_MOST = 24;

    private final Random drawn = new Random(20261115);

    /** The same expression in the document's grammar and in Java's. */
    private record Both(String ours, String javas) {
        Both then(Both other) {
            return new Both(ours + other.ours, javas + other.javas);
        }

        Both repeated(char repeat) {
            return new Both(ours + repeat, "(?:" + javas + repeat + ")");
        }
    }

    public static void main(String[] args) {
        new RegexTest().run();
        Check.finish();
    }

    private void run() {
        for (int n = 0; n < EXPRESSIONS; n++) {
            Both wanted = alternation(0);
            if (wanted.ours.length() <= SIGNS_MOST && repeats(wanted.ours) <= REPEATS_MOST) {
                compare(wanted);
            }
        }
    }

    private static long repeats(String ours) {
        return ours.chars().filter(sign -> sign == '*' || sign == '+').count();
    }

    private void compare(Both wanted) {
        LineRules x = Check.withExpression(wanted.ours);
        Pattern pattern = Pattern.compile(wanted.javas, Pattern.DOTALL);
        for (int n = 0; n < TEXTS_OF_EACH; n++) {
            String text = text();
            int place = drawn.nextInt(text.length() + 1);
            String what = wanted.ours + " in " + text + " from " + place;
            x.clear();
            int begin = Check.feed(x, text).find(0, place);
            Check.due(what, begin + " .. " + x.end(), found(pattern, text, place));
        }
    }

    private static String found(Pattern pattern, String text, int place) {
        Matcher matcher = pattern.matcher(text).useAnchoringBounds(false).useTransparentBounds(true);
        for (int s = place; s <= text.length(); s++) {
            for (int e = text.length(); e >= s; e--) {
                if (matcher.region(s, e).matches()) {
                    return s + " .. " + e;
                }
            }
        }
        return "-1 .. -1";
    }

    private String text() {
        StringBuilder text = new StringBuilder();
        for (int n = drawn.nextInt(7); n > 0; n--) {
            text.append(oneOf("abcab*."));
        }
        return text.toString();
    }

    private char oneOf(String signs) {
        return signs.charAt(drawn.nextInt(signs.length()));
    }

    private Both alternation(int depth) {
        Both whole = sequence(depth);
        while (drawn.nextInt(4) == 0) {
            whole = whole.then(new Both("|", "|")).then(sequence(depth));
        }
        return whole;
    }

    private Both sequence(int depth) {
        Both whole = new Both("", "");
        for (int n = drawn.nextInt(4); n > 0; n--) {
            Both piece = atom(depth);
            while (drawn.nextInt(4) == 0) {
                piece = piece.repeated(oneOf("*+?"));
            }
            whole = whole.then(piece);
        }
        return whole;
    }

    private Both atom(int depth) {
        int kind = drawn.nextInt(12);
        if (kind < 3 && depth < 3) {
            Both inside = alternation(depth + 1);
            return new Both("(" + inside.ours + ")", "(?:" + inside.javas + ")");
        }
        return switch (kind) {
            case 3 -> new Both(".", ".");
            case 4 -> new Both("^", "(?:\\A)");
            case 5 -> new Both("$", "(?:\\z)");
            case 6 -> items();
            case 7 -> new Both("\\", "").then(sign(oneOf("*a.\\|b")));
            default -> sign(oneOf("abc"));
        };
    }

    private Both sign(char sign) {
        return new Both(String.valueOf(sign), String.format("\\x{%02x}", (int) sign));
    }

    private Both items() {
        String open = drawn.nextBoolean() ? "[^" : "[";
        Both whole = new Both(open, open);
        for (int n = 1 + drawn.nextInt(2); n > 0; n--) {
            char low = oneOf("abc");
            whole = whole.then(sign(low));
            if (drawn.nextBoolean()) {
                whole = whole.then(new Both("-", "-")).then(sign((char) (low + drawn.nextInt(2))));
            }
        }
        return whole.then(new Both("]", "]"));
    }
}
