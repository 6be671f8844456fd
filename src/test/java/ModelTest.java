import java.util.function.ToIntFunction;

/** Long runs of calls, drawn by a fixed rule, whose answers are compared with those of the model. */
public final class ModelTest {
    private static final int RUNS = 4000;
    /** What an object answers later is free. */
    private static final int CALLS_MOST = 512;
    /** The calls behind these read what the run has left. */
    private static final int CALLS_OF_THE_RUN = 330;
    private static final String ATOMS = "aab1.^$";
    private static final String NASTY = "ab|*+?.^$\\()[]-";
    private static final String LINE_SIGNS = "aab 1 2-,";
    private static final String MORE_SIGNS = "abcdefgh 1 2 3 -,";

    private long seed;
    private LineRules x;
    private Model model;
    private String told;
    private int calls;
    /** Long lines that are printed and counted much: more than is kept, and more keys than there may be. */
    private final boolean heavy;

    private ModelTest(long seed) {
        this.seed = seed;
        heavy = seed % 4 == 0;
    }

    public static void main(String[] args) {
        for (int run = 1; run <= RUNS; run++) {
            new ModelTest(run).run();
        }
        Check.finish();
    }

    private int below(int bound) {
        seed = seed * 6364136223846793005L + 1442695040888963407L;
        return (int) ((seed >>> 33) % bound);
    }

    private void same(String call, ToIntFunction<LineRules> one, ToIntFunction<Model> other) {
        told = call;
        calls++;
        Check.due(call, Check.answer(() -> one.applyAsInt(x)), Check.answer(() -> other.applyAsInt(model)));
    }

    private void run() {
        x = new LineRules();
        model = new Model();
        int changes = below(3) == 0 ? 25 : 5;
        if (heavy) {
            heavyRules();
        }
        while (calls < CALLS_OF_THE_RUN) {
            int kind = below(100);
            if (kind < changes) {
                expression();
            } else if (kind < changes + 3) {
                text();
            } else if (kind < changes + 16) {
                rule();
            } else if (kind < changes + 40) {
                action();
            } else if (kind < changes + 60) {
                line();
            } else if (kind < changes + 68) {
                find();
            } else {
                rare();
            }
            same("count of the pad behind " + told, y -> y.count(0), y -> y.count(0));
        }
        counts();
        while (calls < CALLS_MOST) {
            readOne();
        }
    }

    private void feed(String text) {
        for (int from = 0; from < text.length(); from += 20) {
            int[] w = new int[5];
            for (int i = 0; i < 5; i++) {
                w[i] = Check.word(text, from + 4 * i);
            }
            same("feed " + text, y -> y.feed(w[0], w[1], w[2], w[3], w[4]), y -> y.feed(w));
        }
    }

    private String signs(String from, int length) {
        StringBuilder signs = new StringBuilder();
        for (int i = 0; i < length; i++) {
            signs.append(from.charAt(below(from.length())));
        }
        return signs.toString();
    }

    private String alternation(int depth) {
        StringBuilder text = new StringBuilder();
        int pieces = below(4);
        for (int n = 0; n < pieces; n++) {
            int kind = below(10);
            if (kind < 2 && depth < 4) {
                text.append('(').append(alternation(depth + 1)).append(')');
            } else if (kind < 3) {
                text.append(new String[] {"[ab]", "[^a]", "[a-b1]", "[^ -0]", "[0-9]", "\\.", "\\-"}[below(7)]);
            } else {
                text.append(ATOMS.charAt(below(ATOMS.length())));
            }
            if (below(3) == 0) {
                text.append("*+?".charAt(below(3)));
            }
        }
        return below(4) == 0 ? text + "|" + alternation(depth + 1) : text.toString();
    }

    private void expression() {
        int k = below(6);
        String text = below(4) == 0 ? signs(NASTY, below(14)) : alternation(0);
        feed(text);
        same("expression " + text, y -> y.expression(k), y -> y.expression(k));
        same("clear", LineRules::clear, Model::clear);
    }

    private void text() {
        int k = below(7) - below(2);
        feed(signs(LINE_SIGNS, below(6) == 0 ? 60 + below(60) : below(5)));
        same("text " + k, y -> y.text(k), y -> y.text(k));
    }

    private void rule() {
        int pattern = below(7);
        int a = pattern < 3 ? below(6) : 1 + below(4);
        int b = pattern == 2 ? 1 + below(4) : below(20) - 4;
        same("rule " + pattern + " " + a + " " + b, y -> y.rule(pattern, a, b), y -> y.rule(pattern, a, b));
    }

    private void action() {
        int rule = below(4);
        int action = below(12) == 0 ? 10 : below(13);
        int a = below(40) == 0 ? 25 + below(8) : below(6);
        int b = below(40) == 0 ? 5 + below(5) : below(6);
        same("action " + rule + " " + action + " " + a + " " + b, y -> y.action(rule, action, a, b),
            y -> y.action(rule, action, a, b));
    }

    private void heavyRules() {
        for (int r = 0; r < 3; r++) {
            int number = r;
            same("rule 0", y -> y.rule(0, 0, 0), y -> y.rule(0, 0, 0));
            for (int n = 0; n < 9; n++) {
                int action = new int[] {0, 0, 3, 3, 3, 3, 8, 4, 5, 2}[below(10)];
                int a = 1 + below(action == 8 ? 5 : 12);
                int b = 1 + below(7);
                same("action " + action + " " + a + " " + b, y -> y.action(number, action, a, b),
                    y -> y.action(number, action, a, b));
            }
        }
    }

    private void line() {
        boolean isLong = heavy || below(5) == 0;
        feed(signs(heavy ? MORE_SIGNS : LINE_SIGNS, isLong ? below(121) : below(14)));
        same("line", LineRules::line, Model::line);
        same("fields", y -> y.count(3), y -> y.count(3));
        for (int field = 0; field < 6; field++) {
            int n = field;
            same("length of field " + n, y -> y.sign(n, -1), y -> y.sign(n, -1));
        }
    }

    private void find() {
        int k = below(6);
        String text = signs(LINE_SIGNS, below(16));
        feed(text);
        int place = below(8) - below(2);
        same("find " + k + " from " + place + " in " + text, y -> y.find(k, place), y -> y.find(k, place));
        same("end", LineRules::end, Model::end);
        same("clear", LineRules::clear, Model::clear);
    }

    private void rare() {
        int what = below(10);
        int sign = new int[] {32, 44, 45, 97, 0, 256}[below(6)];
        if (what == 0 && !heavy) {
            same("forget", LineRules::forget, Model::forget);
        } else if (what == 1) {
            same("separator " + sign, y -> y.separator(sign), y -> y.separator(sign));
        } else {
            same("end", LineRules::end, Model::end);
        }
    }

    private void counts() {
        for (int what = -1; what <= 6; what++) {
            int n = what;
            same("count " + n, y -> y.count(n), y -> y.count(n));
        }
        for (int k = -1; k <= 8; k++) {
            int n = k;
            same("counter " + n, y -> y.counter(n), y -> y.counter(n));
        }
    }

    /** One of the signs, keys or printed signs, now and then one that is not there. */
    private void readOne() {
        int what = below(3);
        if (what == 0) {
            int field = below(4) == 0 ? below(33) - 1 : below(4);
            int j = below(4) == 0 ? below(122) : below(12) - 2;
            same("sign " + field + " " + j, y -> y.sign(field, j), y -> y.sign(field, j));
        } else if (what == 1) {
            int k = below(model.count(5) + 2) - 1;
            int j = below(8) - 3;
            same("key " + k + " " + j, y -> y.key(k, j), y -> y.key(k, j));
        } else {
            int i = model.count(4) - below(Math.min(model.count(4), 1500) + 3) + 1;
            same("printed " + i, y -> y.printed(i), y -> y.printed(i));
        }
    }
}
