/** What the tests share: they compare answers, tell the wrong ones and end with exit code 1 if there was one. */
final class Check {
    interface Call {
        long run();
    }

    static final Class<? extends RuntimeException> NO_SUCH = java.util.NoSuchElementException.class;
    static final Class<? extends RuntimeException> ARGUMENT = IllegalArgumentException.class;
    static final Class<? extends RuntimeException> STATE = IllegalStateException.class;

    private static int compared;
    private static int wrong;
    private static String sentence = "";

    private Check() {
    }

    /** The document's words that the answers to come are due by: told with each wrong one. */
    static void sentence(String words) {
        sentence = "[" + words + "] ";
    }

    static void due(String what, Object got, Object want) {
        compared++;
        if (!got.equals(want)) {
            wrong++;
            System.out.println(sentence + what + " answered " + got + ", due is " + want);
        }
    }

    /** The call throws just this exception. */
    static void refused(String what, Class<? extends RuntimeException> want, Call call) {
        due(what, answer(call), "throws " + want.getSimpleName());
    }

    /** What a call answers, or the name of what it throws. */
    static Object answer(Call call) {
        try {
            return (int) call.run();
        } catch (RuntimeException e) {
            return "throws " + e.getClass().getSimpleName();
        }
    }

    static void finish() {
        System.out.println(compared + " answers compared, " + wrong + " wrong");
        if (wrong != 0 || compared == 0) {
            System.exit(1);
        }
    }

    /** Feeds the signs of a text, twenty a call. */
    static LineRules feed(LineRules x, String text) {
        for (int from = 0; from < text.length(); from += 20) {
            x.feed(word(text, from), word(text, from + 4), word(text, from + 8), word(text, from + 12),
                word(text, from + 16));
        }
        return x;
    }

    static int word(String text, int from) {
        int word = 0;
        for (int i = 0; i < 4 && from + i < text.length(); i++) {
            word |= text.charAt(from + i) << 8 * i;
        }
        return word;
    }

    /** An object whose expression 0 is a text. */
    static LineRules withExpression(String text) {
        LineRules x = new LineRules();
        expression(x, 0, text);
        return x;
    }

    static void expression(LineRules x, int k, String text) {
        due("expression " + text, feed(x, text).expression(k), 0);
    }

    static void text(LineRules x, int k, String text) {
        due("text " + text, feed(x, text).text(k), text.length());
    }

    /** Gives a line to the rules: how many had it. */
    static int line(LineRules x, String text) {
        return feed(x, text).line();
    }

    /** An object with one rule for any line, which has one action. */
    static LineRules withAction(int action, int a, int b) {
        LineRules x = new LineRules();
        x.rule(0, 0, 0);
        x.action(0, action, a, b);
        return x;
    }

    static String row(LineRules x, int field) {
        StringBuilder row = new StringBuilder();
        int length = x.sign(field, -1);
        for (int j = 0; j < length; j++) {
            row.append((char) x.sign(field, j));
        }
        return row.toString();
    }

    /** The fields of the latest line, each in "<" and ">". */
    static String fields(LineRules x) {
        StringBuilder fields = new StringBuilder();
        for (int n = 1; n <= x.count(3); n++) {
            fields.append('<').append(row(x, n)).append('>');
        }
        return fields.toString();
    }

    static String printed(LineRules x) {
        StringBuilder printed = new StringBuilder();
        for (int i = Math.max(0, x.count(4) - 1500); i < x.count(4); i++) {
            printed.append((char) x.printed(i));
        }
        return printed.toString();
    }

    /** The keys of the table, each with its int. */
    static String table(LineRules x) {
        StringBuilder table = new StringBuilder();
        for (int k = 0; k < x.count(5); k++) {
            for (int j = 0; j < x.key(k, -1); j++) {
                table.append((char) x.key(k, j));
            }
            table.append('=').append(x.key(k, -2)).append(' ');
        }
        return table.toString();
    }
}
