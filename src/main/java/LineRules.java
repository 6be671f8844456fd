import java.util.Arrays;
import java.util.NoSuchElementException;

/** Lines are cut into fields and given to rules: ../shared/DOC.md says what each call promises. */
public final class LineRules {
    public static final int NONE = -1;

    private static final int SIGN_MOST = 255;
    private static final int ROW_MOST = 120;
    private static final int EXPRESSION_MOST = 60;
    private static final int GROUPS_MOST = 10;
    private static final int EXPRESSIONS = 6;
    private static final int TEXTS = 6;
    private static final int FIELDS_MOST = 30;
    private static final int COUNTERS = 8;
    private static final int KEYS_MOST = 40;
    private static final int RULES_MOST = 12;
    private static final int ACTIONS_MOST = 10;
    private static final int PRINTED_MOST = 1500;
    private static final int NUMBER_MOST = 11;
    private static final int BLANK = 32;
    private static final int LINE_END = 10;

    private static final int LENGTH = -1;
    private static final int KEY_INT = -2;

    private static final int ANY_LINE = 0;
    private static final int FOUND_IN_LINE = 1;
    private static final int FOUND_IN_FIELD = 2;
    private static final int FIELD_BELOW = 3;
    private static final int FIELD_IS = 4;
    private static final int LINE_NUMBER = 5;
    private static final int MORE_FIELDS = 6;

    private static final int PRINT_LINE = 0;
    private static final int PRINT_FIELD = 1;
    private static final int SUM_FIELD = 2;
    private static final int COUNT_FIELD = 3;
    private static final int FIELD_TO_FIELD = 4;
    private static final int COUNTER_TO_FIELD = 5;
    private static final int REPLACE_FIRST = 6;
    private static final int REPLACE_ALL = 7;
    private static final int PRINT_MATCH = 8;
    private static final int PRINT_COUNTER = 9;
    private static final int NO_MORE_RULES = 10;
    private static final int SET_COUNTER = 11;
    private static final int NUMBER_TO_COUNTER = 12;

    private final Row pad = new Row(ROW_MOST);
    private final Row[] texts = new Row[TEXTS];
    private final Expression[] expressions = new Expression[EXPRESSIONS];
    private final Reader reader = new Reader();
    private final Rule[] rules = new Rule[RULES_MOST];
    private final CutLine latest = new CutLine();
    private final int[] counters = new int[COUNTERS];
    private final Table table = new Table();
    private final Output output = new Output();
    private final Row numberText = new Row(NUMBER_MOST);
    private int ruleCount;
    private int lineCount;
    private int fieldSeparator = BLANK;
    private int foundEnd = NONE;

    public LineRules() {
        for (int k = 0; k < TEXTS; k++) {
            texts[k] = new Row(ROW_MOST);
        }
        for (int k = 0; k < EXPRESSIONS; k++) {
            expressions[k] = new Expression();
        }
        for (int r = 0; r < RULES_MOST; r++) {
            rules[r] = new Rule();
        }
    }

    public int feed(int a, int b, int c, int d, int e) throws IllegalStateException {
        int more = signsIn(a) + signsIn(b) + signsIn(c) + signsIn(d) + signsIn(e);
        if (pad.length + more > ROW_MOST) {
            throw new IllegalStateException("the pad would have more than 120 signs");
        }
        addToPad(a);
        addToPad(b);
        addToPad(c);
        addToPad(d);
        addToPad(e);
        return pad.length;
    }

    public int clear() {
        int had = pad.length;
        pad.drop();
        return had;
    }

    public int expression(int k) throws NoSuchElementException, IllegalStateException {
        if (!isExpression(k)) {
            throw new NoSuchElementException("no such expression");
        }
        if (pad.length > EXPRESSION_MOST) {
            throw new IllegalStateException("the pad has more than 60 signs");
        }
        int fault = reader.read(pad);
        if (fault != NONE) {
            return fault + 1;
        }
        expressions[k] = reader.exchange(expressions[k]);
        pad.drop();
        return 0;
    }

    public int text(int k) throws NoSuchElementException {
        if (!isText(k)) {
            throw new NoSuchElementException("no such text");
        }
        texts[k].become(pad);
        return clear();
    }

    public int separator(int sign) throws IllegalArgumentException {
        if (sign < 1 || sign > SIGN_MOST) {
            throw new IllegalArgumentException("the separator is no sign");
        }
        int was = fieldSeparator;
        fieldSeparator = sign;
        return was;
    }

    public int rule(int pattern, int a, int b) throws NoSuchElementException, IllegalStateException {
        if (!isPattern(pattern, a, b)) {
            throw new NoSuchElementException("no such pattern, expression or field");
        }
        if (ruleCount == RULES_MOST) {
            throw new IllegalStateException("there are twelve rules");
        }
        rules[ruleCount].begin(pattern, a, b);
        ruleCount++;
        return ruleCount - 1;
    }

    public int action(int rule, int action, int a, int b) throws NoSuchElementException, IllegalStateException {
        if (rule < 0 || rule >= ruleCount || !isAction(action, a, b)) {
            throw new NoSuchElementException("no such rule, action, field, counter, expression or text");
        }
        if (rules[rule].isFull()) {
            throw new IllegalStateException("the rule has ten actions");
        }
        return rules[rule].add(action, a, b);
    }

    public int forget() {
        int had = ruleCount;
        ruleCount = 0;
        return had;
    }

    public int line() {
        latest.begin(pad, fieldSeparator);
        pad.drop();
        lineCount++;
        int had = 0;
        boolean more = true;
        for (int r = 0; r < ruleCount && more; r++) {
            if (hasPattern(rules[r])) {
                had++;
                more = doActions(rules[r]);
            }
        }
        return had;
    }

    public int find(int k, int place) throws NoSuchElementException {
        if (!isExpression(k) || place < 0 || place > pad.length) {
            throw new NoSuchElementException("no such expression or place");
        }
        int begin = expressions[k].firstFrom(pad, place);
        foundEnd = begin == NONE ? NONE : expressions[k].longestFrom(pad, begin);
        return begin;
    }

    public int end() {
        return foundEnd;
    }

    public int sign(int field, int j) throws NoSuchElementException {
        if (field < 0 || field > latest.fieldCount) {
            throw new NoSuchElementException("no such field");
        }
        Row row = field == 0 ? latest.whole : latest.fieldText(field);
        if (j == LENGTH) {
            return row.length;
        }
        if (!row.has(j)) {
            throw new NoSuchElementException("no such sign");
        }
        return row.signs[j];
    }

    public int printed(int i) throws NoSuchElementException {
        if (!output.has(i)) {
            throw new NoSuchElementException("not printed, or not kept any more");
        }
        return output.signAt(i);
    }

    public int counter(int k) throws NoSuchElementException {
        if (!isCounter(k)) {
            throw new NoSuchElementException("no such counter");
        }
        return counters[k];
    }

    public int key(int k, int j) throws NoSuchElementException {
        if (k < 0 || k >= table.size) {
            throw new NoSuchElementException("no such key");
        }
        if (j == KEY_INT) {
            return table.ints[k];
        }
        Row row = table.keys[k];
        if (j == LENGTH) {
            return row.length;
        }
        if (!row.has(j)) {
            throw new NoSuchElementException("no such sign");
        }
        return row.signs[j];
    }

    public int count(int what) throws IllegalArgumentException {
        switch (what) {
            case 0:
                return pad.length;
            case 1:
                return ruleCount;
            case 2:
                return lineCount;
            case 3:
                return latest.fieldCount;
            case 4:
                return output.total;
            case 5:
                return table.size;
            default:
                throw new IllegalArgumentException("nothing that is counted");
        }
    }

    private static int signsIn(int word) {
        int signs = 0;
        for (int shift = 0; shift < 32; shift += 8) {
            if ((word >>> shift & SIGN_MOST) != 0) {
                signs++;
            }
        }
        return signs;
    }

    private void addToPad(int word) {
        for (int shift = 0; shift < 32; shift += 8) {
            int sign = word >>> shift & SIGN_MOST;
            if (sign != 0) {
                pad.add(sign);
            }
        }
    }

    private static boolean isExpression(int k) {
        return k >= 0 && k < EXPRESSIONS;
    }

    private static boolean isText(int k) {
        return k >= 0 && k < TEXTS;
    }

    private static boolean isCounter(int k) {
        return k >= 0 && k < COUNTERS;
    }

    private static boolean isField(int n) {
        return n >= 1 && n <= FIELDS_MOST;
    }

    private static boolean isPattern(int pattern, int a, int b) {
        switch (pattern) {
            case ANY_LINE:
            case LINE_NUMBER:
            case MORE_FIELDS:
                return true;
            case FOUND_IN_LINE:
                return isExpression(a);
            case FOUND_IN_FIELD:
                return isExpression(a) && isField(b);
            case FIELD_BELOW:
            case FIELD_IS:
                return isField(a);
            default:
                return false;
        }
    }

    private static boolean isAction(int action, int a, int b) {
        switch (action) {
            case PRINT_LINE:
            case NO_MORE_RULES:
                return true;
            case PRINT_FIELD:
            case COUNT_FIELD:
                return isField(a);
            case SUM_FIELD:
            case COUNTER_TO_FIELD:
                return isField(a) && isCounter(b);
            case FIELD_TO_FIELD:
                return isField(a) && isField(b);
            case REPLACE_FIRST:
            case REPLACE_ALL:
                return isExpression(a) && isText(b);
            case PRINT_MATCH:
                return isExpression(a);
            case PRINT_COUNTER:
            case SET_COUNTER:
            case NUMBER_TO_COUNTER:
                return isCounter(a);
            default:
                return false;
        }
    }

    private boolean hasPattern(Rule rule) {
        int a = rule.a;
        int b = rule.b;
        switch (rule.pattern) {
            case FOUND_IN_LINE:
                return expressions[a].firstFrom(latest.whole, 0) != NONE;
            case FOUND_IN_FIELD:
                return expressions[a].firstFrom(latest.fieldText(b), 0) != NONE;
            case FIELD_BELOW:
                return latest.fieldText(a).toNumber() < b;
            case FIELD_IS:
                return latest.fieldText(a).toNumber() == b;
            case LINE_NUMBER:
                return lineCount >= a && lineCount <= b;
            case MORE_FIELDS:
                return latest.fieldCount > a;
            default:
                return true;
        }
    }

    /** Whether the rules behind this one have their turn, too. */
    private boolean doActions(Rule rule) {
        boolean more = true;
        for (int n = 0; n < rule.actionCount; n++) {
            if (rule.actions[n] == NO_MORE_RULES) {
                more = false;
            } else {
                doAction(rule.actions[n], rule.firsts[n], rule.seconds[n]);
            }
        }
        return more;
    }

    private void doAction(int action, int a, int b) {
        switch (action) {
            case PRINT_LINE:
                output.print(latest.whole);
                break;
            case PRINT_FIELD:
                output.print(latest.fieldText(a));
                break;
            case SUM_FIELD:
                counters[b] += latest.fieldText(a).toNumber();
                break;
            case COUNT_FIELD:
                table.grow(latest.fieldText(a), b);
                break;
            case FIELD_TO_FIELD:
                latest.setField(a, latest.fieldText(b), fieldSeparator);
                break;
            case COUNTER_TO_FIELD:
                numberText.becomeNumber(counters[b]);
                latest.setField(a, numberText, fieldSeparator);
                break;
            case REPLACE_FIRST:
                latest.replace(expressions[a], texts[b], 1);
                latest.cut(fieldSeparator);
                break;
            case REPLACE_ALL:
                latest.replace(expressions[a], texts[b], ROW_MOST + 1);
                latest.cut(fieldSeparator);
                break;
            case PRINT_MATCH:
                printMatch(expressions[a]);
                break;
            case PRINT_COUNTER:
                numberText.becomeNumber(counters[a]);
                output.print(numberText);
                break;
            case SET_COUNTER:
                counters[a] = b;
                break;
            case NUMBER_TO_COUNTER:
                counters[a] = lineCount;
                break;
            default:
                break;
        }
    }

    private void printMatch(Expression wanted) {
        int begin = wanted.firstFrom(latest.whole, 0);
        if (begin != NONE) {
            output.printPart(latest.whole, begin, wanted.longestFrom(latest.whole, begin));
        }
    }

    /** A row of signs; what would stand behind its last place is left out. */
    static final class Row {
        final int[] signs;
        int length;

        Row(int most) {
            signs = new int[most];
        }

        void drop() {
            length = 0;
        }

        boolean has(int j) {
            return j >= 0 && j < length;
        }

        void add(int sign) {
            if (length < signs.length) {
                signs[length] = sign;
                length++;
            }
        }

        void addPart(Row other, int from, int to) {
            int more = Math.min(to - from, signs.length - length);
            if (more > 0) {
                System.arraycopy(other.signs, from, signs, length, more);
                length += more;
            }
        }

        void addAll(Row other) {
            addPart(other, 0, other.length);
        }

        void become(Row other) {
            // the other row may be this one: no sign goes before all are copied
            int most = Math.min(other.length, signs.length);
            System.arraycopy(other.signs, 0, signs, 0, most);
            length = most;
        }

        void becomeNumber(int number) {
            drop();
            // a long, because the least int has no positive counterpart
            long rest = number;
            if (rest < 0) {
                add('-');
                rest = -rest;
            }
            long unit = 1;
            for (int n = 1; n < NUMBER_MOST && unit * 10 <= rest; n++) {
                unit *= 10;
            }
            for (int n = 0; n < NUMBER_MOST && unit > 0; n++) {
                add('0' + (int) (rest / unit % 10));
                unit /= 10;
            }
        }

        int toNumber() {
            boolean below = length > 0 && signs[0] == '-';
            int number = 0;
            for (int j = below ? 1 : 0; j < length && signs[j] >= '0' && signs[j] <= '9'; j++) {
                number = number * 10 + (signs[j] - '0');
            }
            return below ? -number : number;
        }

        /** Below 0 if this row is less than the other, 0 if they are the same. */
        int compareWith(Row other) {
            int both = Math.min(length, other.length);
            for (int j = 0; j < both; j++) {
                if (signs[j] != other.signs[j]) {
                    return signs[j] - other.signs[j];
                }
            }
            return length - other.length;
        }
    }

    /**
     * An expression as an automaton whose states are its atoms that take a sign: at most 60, so that a long holds a
     * set of them. "^" and "$" take none; whether they hold depends on the place alone, so what they let pass is kept
     * apart for the four kinds of place: not at an edge, at the beginning, at the end, at both.
     */
    static final class Expression {
        static final int INSIDE = 0;
        static final int AT_BEGINNING = 1;
        static final int AT_END = 2;
        static final int PLACES = 4;

        /** By sign: the atoms that take it. */
        final long[] takers = new long[SIGN_MOST + 1];
        /** By atom: those that may come next to it. */
        final long[] followers = new long[EXPRESSION_MOST];
        /** By kind of place: the atoms that a match may begin with there, and those that it may end behind there. */
        final long[] firsts = new long[PLACES];
        final long[] lasts = new long[PLACES];
        /** By kind of place: whether the empty part matches there. A new expression is the empty text. */
        final boolean[] matchesEmpty = {true, true, true, true};
        int atoms;

        void drop() {
            Arrays.fill(takers, 0L);
            Arrays.fill(followers, 0L);
            atoms = 0;
        }

        /** The least place from which some part matches, not below a place. */
        int firstFrom(Row text, int place) {
            for (int begin = place; begin <= text.length; begin++) {
                if (longestFrom(text, begin) != NONE) {
                    return begin;
                }
            }
            return NONE;
        }

        /** Where the longest match that begins at a place ends. */
        int longestFrom(Row text, int begin) {
            int longest = matchesEmpty[kindOf(begin, text.length)] ? begin : NONE;
            long states = firsts[kindOf(begin, text.length)];
            for (int i = begin; i < text.length && states != 0; i++) {
                long taking = states & takers[text.signs[i]];
                if ((taking & lasts[kindOf(i + 1, text.length)]) != 0) {
                    longest = i + 1;
                }
                states = followersOf(taking);
            }
            return longest;
        }

        private static int kindOf(int place, int length) {
            return (place == 0 ? AT_BEGINNING : INSIDE) | (place == length ? AT_END : INSIDE);
        }

        private long followersOf(long states) {
            long next = 0;
            long rest = states;
            for (int atom = 0; atom < atoms && rest != 0; atom++) {
                if ((rest & 1) != 0) {
                    next |= followers[atom];
                }
                rest >>>= 1;
            }
            return next;
        }
    }

    /** Reads the text of an expression into a tree, parts before the whole, and makes the automaton out of it. */
    static final class Reader {
        private static final int NOTHING = 0;
        private static final int BEGINNING = 1;
        private static final int END = 2;
        private static final int ATOM = 3;
        private static final int THEN = 4;
        private static final int EITHER = 5;
        private static final int ANY_TIMES = 6;
        private static final int SOME_TIMES = 7;
        private static final int AT_MOST_ONCE = 8;
        /** A sign makes two nodes at most, and the sequence that is always there makes one. */
        private static final int NODES_MOST = 2 * EXPRESSION_MOST + 1;

        private final int[] kinds = new int[NODES_MOST];
        private final int[] lefts = new int[NODES_MOST];
        private final int[] rights = new int[NODES_MOST];
        private final boolean[] empties = new boolean[NODES_MOST];
        private final long[] firsts = new long[NODES_MOST];
        private final long[] lasts = new long[NODES_MOST];
        private int nodes;
        private Expression made = new Expression();
        private Row source = new Row(0);
        private int at;
        private int fault;

        /** Where the fault is; NONE if there is none, and exchange() has the expression then. */
        int read(Row text) {
            source = text;
            at = 0;
            fault = NONE;
            nodes = 0;
            made.drop();
            int whole = alternation(0);
            if (at < source.length) {
                refuse();
            }
            if (fault == NONE) {
                for (int kind = 0; kind < Expression.PLACES; kind++) {
                    weighAll(kind);
                    made.matchesEmpty[kind] = empties[whole];
                    made.firsts[kind] = firsts[whole];
                    made.lasts[kind] = lasts[whole];
                }
            }
            return fault;
        }

        /** The expression that was read; the old one is used for the next reading. */
        Expression exchange(Expression old) {
            Expression done = made;
            made = old;
            return done;
        }

        private int alternation(int depth) {
            int whole = sequence(depth);
            for (int n = 0; n < EXPRESSION_MOST && next() == '|'; n++) {
                at++;
                int other = sequence(depth);
                whole = node(EITHER, whole, other);
            }
            return whole;
        }

        private int sequence(int depth) {
            int whole = node(NOTHING, 0, 0);
            for (int n = 0; n < EXPRESSION_MOST && next() != 0 && next() != '|' && next() != ')'; n++) {
                int piece = repeated(atom(depth));
                whole = node(THEN, whole, piece);
            }
            return whole;
        }

        private int repeated(int part) {
            int whole = part;
            for (int n = 0; n < EXPRESSION_MOST && isRepeat(next()); n++) {
                whole = node(repeatKind(next()), whole, 0);
                at++;
            }
            return whole;
        }

        private static boolean isRepeat(int sign) {
            return sign == '*' || sign == '+' || sign == '?';
        }

        private static int repeatKind(int sign) {
            return sign == '*' ? ANY_TIMES : sign == '+' ? SOME_TIMES : AT_MOST_ONCE;
        }

        private int atom(int depth) {
            int sign = next();
            if (isRepeat(sign) || sign == ']' || sign == '(' && depth >= GROUPS_MOST) {
                return refuse();
            }
            at++;
            switch (sign) {
                case '^':
                    return node(BEGINNING, 0, 0);
                case '$':
                    return node(END, 0, 0);
                case '.':
                    return anySign();
                case '\\':
                    return one(escaped());
                case '[':
                    return items();
                case '(':
                    return group(depth);
                default:
                    return one(sign);
            }
        }

        private int group(int depth) {
            int inside = alternation(depth + 1);
            if (next() != ')') {
                return refuse();
            }
            at++;
            return inside;
        }

        /** The sign behind a backslash; it is a fault that there is none. */
        private int escaped() {
            int sign = next();
            if (sign == 0) {
                refuse();
            } else {
                at++;
            }
            return sign;
        }

        private int one(int sign) {
            long taker = newAtom();
            take(taker, sign, sign);
            return node(ATOM, made.atoms - 1, 0);
        }

        private int anySign() {
            long taker = newAtom();
            take(taker, 1, SIGN_MOST);
            return node(ATOM, made.atoms - 1, 0);
        }

        private int items() {
            long taker = newAtom();
            boolean others = next() == '^';
            if (others) {
                at++;
            }
            item(taker);
            for (int n = 0; n < EXPRESSION_MOST && next() != 0 && next() != ']'; n++) {
                item(taker);
            }
            if (next() != ']') {
                return refuse();
            }
            at++;
            if (others) {
                takeOthers(taker);
            }
            return node(ATOM, made.atoms - 1, 0);
        }

        private void item(long taker) {
            int low = next();
            if (!isItemSign(low)) {
                refuse();
                return;
            }
            at++;
            int high = low;
            if (next() == '-') {
                at++;
                high = next();
                if (!isItemSign(high) || high < low) {
                    refuse();
                    return;
                }
                at++;
            }
            take(taker, low, high);
        }

        private static boolean isItemSign(int sign) {
            return sign != 0 && sign != ']' && sign != '\\' && sign != '-';
        }

        /** The sign at the place; 0, which is no sign, at the end. */
        private int next() {
            return at < source.length ? source.signs[at] : 0;
        }

        /** The first fault counts. Nothing is left to read then, so that all that stands open comes to its end. */
        private int refuse() {
            if (fault == NONE) {
                fault = at;
            }
            at = source.length;
            return 0;
        }

        private long newAtom() {
            made.atoms++;
            return 1L << made.atoms - 1;
        }

        private void take(long taker, int low, int high) {
            for (int sign = low; sign <= high; sign++) {
                made.takers[sign] |= taker;
            }
        }

        private void takeOthers(long taker) {
            for (int sign = 1; sign <= SIGN_MOST; sign++) {
                made.takers[sign] ^= taker;
            }
        }

        private int node(int kind, int left, int right) {
            if (nodes == NODES_MOST) {
                return refuse();
            }
            kinds[nodes] = kind;
            lefts[nodes] = left;
            rights[nodes] = right;
            nodes++;
            return nodes - 1;
        }

        private void weighAll(int kind) {
            for (int n = 0; n < nodes; n++) {
                weigh(n, kind);
                // followers meet behind one sign and ahead of another: never at an edge
                if (kind == Expression.INSIDE) {
                    link(n);
                }
            }
        }

        /** Which atoms a node may begin with and end behind at a kind of place, and whether an empty part matches. */
        private void weigh(int n, int kind) {
            int left = lefts[n];
            int right = rights[n];
            switch (kinds[n]) {
                case ATOM:
                    set(n, false, 1L << left, 1L << left);
                    break;
                case BEGINNING:
                    set(n, (kind & Expression.AT_BEGINNING) != 0, 0, 0);
                    break;
                case END:
                    set(n, (kind & Expression.AT_END) != 0, 0, 0);
                    break;
                case THEN:
                    set(n, empties[left] && empties[right],
                        firsts[left] | (empties[left] ? firsts[right] : 0),
                        lasts[right] | (empties[right] ? lasts[left] : 0));
                    break;
                case EITHER:
                    set(n, empties[left] || empties[right], firsts[left] | firsts[right], lasts[left] | lasts[right]);
                    break;
                case ANY_TIMES:
                case AT_MOST_ONCE:
                    set(n, true, firsts[left], lasts[left]);
                    break;
                case SOME_TIMES:
                    set(n, empties[left], firsts[left], lasts[left]);
                    break;
                default:
                    set(n, true, 0, 0);
                    break;
            }
        }

        private void set(int n, boolean empty, long first, long last) {
            empties[n] = empty;
            firsts[n] = first;
            lasts[n] = last;
        }

        private void link(int n) {
            if (kinds[n] == THEN) {
                follow(lasts[lefts[n]], firsts[rights[n]]);
            } else if (kinds[n] == ANY_TIMES || kinds[n] == SOME_TIMES) {
                follow(lasts[lefts[n]], firsts[lefts[n]]);
            }
        }

        private void follow(long before, long behind) {
            for (int atom = 0; atom < made.atoms; atom++) {
                if ((before >>> atom & 1) != 0) {
                    made.followers[atom] |= behind;
                }
            }
        }
    }

    /** A line with its fields, which are rows of their own: what is set in one need not stand in the line. */
    static final class CutLine {
        final Row whole = new Row(ROW_MOST);
        int fieldCount;
        private final Row[] fields = new Row[FIELDS_MOST];
        private final Row absent = new Row(0);
        private final Row changed = new Row(ROW_MOST);

        CutLine() {
            for (int n = 0; n < FIELDS_MOST; n++) {
                fields[n] = new Row(ROW_MOST);
            }
        }

        void begin(Row text, int separator) {
            whole.become(text);
            cut(separator);
        }

        void cut(int separator) {
            fieldCount = 0;
            boolean takesEmpty = separator != BLANK && whole.length > 0;
            int begin = 0;
            for (int i = 0; i <= whole.length; i++) {
                if (i == whole.length || whole.signs[i] == separator) {
                    if (i > begin || takesEmpty) {
                        addField(begin, i);
                    }
                    begin = i + 1;
                }
            }
        }

        private void addField(int from, int to) {
            if (fieldCount < FIELDS_MOST) {
                fields[fieldCount].drop();
                fields[fieldCount].addPart(whole, from, to);
                fieldCount++;
            }
        }

        /** Fields count from 1; one that is not there is empty. */
        Row fieldText(int field) {
            return field >= 1 && field <= fieldCount ? fields[field - 1] : absent;
        }

        void setField(int field, Row text, int separator) {
            for (int n = fieldCount; n < field && n < FIELDS_MOST; n++) {
                fields[n].drop();
                fieldCount++;
            }
            fieldText(field).become(text);
            join(separator);
        }

        private void join(int separator) {
            whole.drop();
            for (int n = 0; n < fieldCount; n++) {
                if (n > 0) {
                    whole.add(separator);
                }
                whole.addAll(fields[n]);
            }
        }

        /** The first matches, but no more than told, become the text. */
        void replace(Expression wanted, Row text, int most) {
            changed.drop();
            int done = 0;
            int begin = wanted.firstFrom(whole, 0);
            for (int n = 0; n < most && begin != NONE; n++) {
                changed.addPart(whole, done, begin);
                changed.addAll(text);
                done = wanted.longestFrom(whole, begin);
                begin = matchBehind(wanted, done);
            }
            changed.addPart(whole, done, whole.length);
            whole.become(changed);
        }

        private int matchBehind(Expression wanted, int place) {
            int begin = wanted.firstFrom(whole, place);
            if (begin == place && wanted.longestFrom(whole, begin) == place) {
                return wanted.firstFrom(whole, place + 1);
            }
            return begin;
        }
    }

    static final class Rule {
        int pattern;
        int a;
        int b;
        final int[] actions = new int[ACTIONS_MOST];
        final int[] firsts = new int[ACTIONS_MOST];
        final int[] seconds = new int[ACTIONS_MOST];
        int actionCount;

        void begin(int newPattern, int newA, int newB) {
            pattern = newPattern;
            a = newA;
            b = newB;
            actionCount = 0;
        }

        boolean isFull() {
            return actionCount == ACTIONS_MOST;
        }

        int add(int action, int first, int second) {
            if (!isFull()) {
                actions[actionCount] = action;
                firsts[actionCount] = first;
                seconds[actionCount] = second;
                actionCount++;
            }
            return actionCount;
        }
    }

    /** The keys, the lesser first, each with its int. */
    static final class Table {
        final Row[] keys = new Row[KEYS_MOST];
        final int[] ints = new int[KEYS_MOST];
        int size;

        void grow(Row text, int by) {
            int k = placeOf(text);
            if (k < size && keys[k].compareWith(text) == 0) {
                ints[k] += by;
            } else if (size < KEYS_MOST) {
                insert(k, text, by);
            }
        }

        /** The place of the first key that is not less than the text. */
        private int placeOf(Row text) {
            for (int k = 0; k < size; k++) {
                if (keys[k].compareWith(text) >= 0) {
                    return k;
                }
            }
            return size;
        }

        private void insert(int place, Row text, int by) {
            for (int k = size; k > place; k--) {
                keys[k] = keys[k - 1];
                ints[k] = ints[k - 1];
            }
            // a key stays for good, so it gets a row of just its own length
            keys[place] = new Row(text.length);
            keys[place].become(text);
            ints[place] = by;
            size++;
        }
    }

    /** What was printed; a new sign takes the place of the oldest one that is kept. */
    static final class Output {
        private final int[] kept = new int[PRINTED_MOST];
        int total;

        void print(Row row) {
            printPart(row, 0, row.length);
        }

        void printPart(Row row, int from, int to) {
            for (int j = from; j < to; j++) {
                add(row.signs[j]);
            }
            add(LINE_END);
        }

        private void add(int sign) {
            kept[Math.floorMod(total, PRINTED_MOST)] = sign;
            total++;
        }

        boolean has(int i) {
            return i >= 0 && i < total && i >= total - PRINTED_MOST;
        }

        int signAt(int i) {
            return kept[Math.floorMod(i, PRINTED_MOST)];
        }
    }
}
