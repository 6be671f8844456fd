/** All that can be asked of an object, as one text, in less than 400 calls; the object is used up by it. */
final class Whole {
    private Whole() {
    }

    static String of(LineRules x) {
        StringBuilder all = new StringBuilder();
        for (int what = 0; what <= 5; what++) {
            all.append(x.count(what)).append(' ');
        }
        for (int k = 0; k <= 7; k++) {
            all.append(x.counter(k)).append(' ');
        }
        all.append(x.end()).append(' ').append(Check.row(x, 0)).append(Check.fields(x));
        keys(x, all);
        printedLast(x, all);
        finds(x, all);
        lineByOldRules(x, all);
        actionsOfRules(x, all);
        texts(x, all);
        return all.append(x.separator(1)).toString();
    }

    private static void keys(LineRules x, StringBuilder all) {
        for (int k = 0; k < x.count(5); k++) {
            all.append(x.key(k, -1)).append('=').append(x.key(k, -2)).append(' ');
        }
    }

    private static void printedLast(LineRules x, StringBuilder all) {
        int total = x.count(4);
        for (int i = Math.max(0, total - 30); i < total; i++) {
            all.append((char) x.printed(i));
        }
    }

    /** Shows the expressions and, in part, the pad. */
    private static void finds(LineRules x, StringBuilder all) {
        for (int k = 0; k <= 5; k++) {
            all.append(x.find(k, 0)).append(',').append(x.end()).append(' ');
        }
    }

    /** Shows the pad and what the rules do. */
    private static void lineByOldRules(LineRules x, StringBuilder all) {
        all.append(x.line()).append(Check.answer(() -> x.sign(0, 117))).append(x.sign(0, -1)).append(x.count(4));
        printedLast(x, all);
        keys(x, all);
    }

    private static void actionsOfRules(LineRules x, StringBuilder all) {
        for (int r = 0; r < 12; r++) {
            int rule = r;
            all.append(Check.answer(() -> x.action(rule, 10, 0, 0))).append(' ');
        }
    }

    private static void texts(LineRules x, StringBuilder all) {
        x.forget();
        x.rule(0, 0, 0);
        x.clear();
        x.expression(0);
        for (int k = 5; k >= 0; k--) {
            x.action(0, 6, 0, k);
        }
        x.line();
        all.append(Check.row(x, 0));
    }
}
