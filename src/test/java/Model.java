import java.util.ArrayList;
import java.util.List;
import java.util.NoSuchElementException;
import java.util.Set;
import java.util.TreeMap;
import java.util.TreeSet;

/** The document once more, in the plainest words and with no care for room: what the program is compared with. */
final class Model {
    private String pad = "";
    private final String[] texts = {"", "", "", "", "", ""};
    private final String[] expressions = {"", "", "", "", "", ""};
    private final int[] counters = new int[8];
    private final TreeMap<String, Integer> table = new TreeMap<>();
    private final StringBuilder all = new StringBuilder();
    private final List<int[]> rules = new ArrayList<>();
    private final List<List<int[]>> actions = new ArrayList<>();
    private List<String> fields = new ArrayList<>();
    private String whole = "";
    private char separator = ' ';
    private int lines;
    private int end = -1;

    int feed(int... words) {
        StringBuilder more = new StringBuilder(pad);
        for (int word : words) {
            for (int rest = word, n = 0; n < 4; n++, rest >>>= 8) {
                if ((rest & 255) != 0) {
                    more.append((char) (rest & 255));
                }
            }
        }
        if (more.length() > 120) {
            throw new IllegalStateException();
        }
        pad = more.toString();
        return pad.length();
    }

    int clear() {
        int had = pad.length();
        pad = "";
        return had;
    }

    int expression(int k) {
        there(k >= 0 && k <= 5);
        if (pad.length() > 60) {
            throw new IllegalStateException();
        }
        int fault = fault(pad);
        if (fault >= 0) {
            return fault + 1;
        }
        expressions[k] = pad;
        pad = "";
        return 0;
    }

    int text(int k) {
        there(k >= 0 && k <= 5);
        texts[k] = pad;
        return clear();
    }

    int separator(int sign) {
        if (sign < 1 || sign > 255) {
            throw new IllegalArgumentException();
        }
        int was = separator;
        separator = (char) sign;
        return was;
    }

    int rule(int pattern, int a, int b) {
        there(pattern >= 0 && pattern <= 6);
        there(pattern != 1 && pattern != 2 || a >= 0 && a <= 5);
        there(pattern != 2 || b >= 1 && b <= 30);
        there(pattern != 3 && pattern != 4 || a >= 1 && a <= 30);
        if (rules.size() == 12) {
            throw new IllegalStateException();
        }
        rules.add(new int[] {pattern, a, b});
        actions.add(new ArrayList<>());
        return rules.size() - 1;
    }

    int action(int rule, int action, int a, int b) {
        there(rule >= 0 && rule < rules.size() && action >= 0 && action <= 12);
        there(action < 1 || action > 5 || a >= 1 && a <= 30);
        there(action != 4 || b >= 1 && b <= 30);
        there(action != 2 && action != 5 || b >= 0 && b <= 7);
        there(action != 9 && action != 11 && action != 12 || a >= 0 && a <= 7);
        there(action < 6 || action > 8 || a >= 0 && a <= 5);
        there(action != 6 && action != 7 || b >= 0 && b <= 5);
        if (actions.get(rule).size() == 10) {
            throw new IllegalStateException();
        }
        actions.get(rule).add(new int[] {action, a, b});
        return actions.get(rule).size();
    }

    int forget() {
        int had = rules.size();
        rules.clear();
        actions.clear();
        return had;
    }

    int line() {
        whole = pad;
        pad = "";
        fields = parts(whole);
        lines++;
        int had = 0;
        for (int r = 0; r < rules.size(); r++) {
            if (has(rules.get(r))) {
                had++;
                boolean last = false;
                for (int[] action : actions.get(r)) {
                    last |= action[0] == 10;
                    act(action[0], action[1], action[2]);
                }
                if (last) {
                    break;
                }
            }
        }
        return had;
    }

    int find(int k, int place) {
        there(k >= 0 && k <= 5 && place >= 0 && place <= pad.length());
        int[] match = match(expressions[k], pad, place);
        end = match == null ? -1 : match[1];
        return match == null ? -1 : match[0];
    }

    int end() {
        return end;
    }

    int sign(int field, int j) {
        there(field >= 0 && field <= fields.size());
        String row = field == 0 ? whole : fields.get(field - 1);
        there(j >= -1 && j < row.length());
        return j == -1 ? row.length() : row.charAt(j);
    }

    int printed(int i) {
        there(i >= 0 && i < all.length() && all.length() - i <= 1500);
        return all.charAt(i);
    }

    int counter(int k) {
        there(k >= 0 && k <= 7);
        return counters[k];
    }

    int key(int k, int j) {
        there(k >= 0 && k < table.size());
        String row = new ArrayList<>(table.keySet()).get(k);
        there(j >= -2 && j < row.length());
        return j == -2 ? table.get(row) : j == -1 ? row.length() : row.charAt(j);
    }

    int count(int what) {
        if (what < 0 || what > 5) {
            throw new IllegalArgumentException();
        }
        return new int[] {pad.length(), rules.size(), lines, fields.size(), all.length(), table.size()}[what];
    }

    private static void there(boolean is) {
        if (!is) {
            throw new NoSuchElementException();
        }
    }

    private List<String> parts(String line) {
        List<String> parts = new ArrayList<>();
        String pattern = java.util.regex.Pattern.quote(String.valueOf(separator));
        for (String part : line.split(pattern, -1)) {
            if (parts.size() < 30 && (separator == ' ' ? !part.isEmpty() : !line.isEmpty())) {
                parts.add(part);
            }
        }
        return parts;
    }

    private String field(int n) {
        return n <= fields.size() ? fields.get(n - 1) : "";
    }

    private int number(int n) {
        String text = field(n);
        java.util.regex.Matcher digits = java.util.regex.Pattern.compile("^-?[0-9]+").matcher(text);
        return digits.find() ? new java.math.BigInteger(digits.group()).intValue() : 0;
    }

    private boolean has(int[] rule) {
        int a = rule[1];
        int b = rule[2];
        return switch (rule[0]) {
            case 0 -> true;
            case 1 -> match(expressions[a], whole, 0) != null;
            case 2 -> match(expressions[a], field(b), 0) != null;
            case 3 -> number(a) < b;
            case 4 -> number(a) == b;
            case 5 -> a <= lines && lines <= b;
            default -> fields.size() > a;
        };
    }

    private void act(int action, int a, int b) {
        switch (action) {
            case 0 -> print(whole);
            case 1 -> print(field(a));
            case 2 -> counters[b] += number(a);
            case 3 -> {
                if (table.containsKey(field(a)) || table.size() < 40) {
                    table.merge(field(a), b, Integer::sum);
                }
            }
            case 4 -> set(a, field(b));
            case 5 -> set(a, String.valueOf(counters[b]));
            case 6 -> replace(expressions[a], texts[b], false);
            case 7 -> replace(expressions[a], texts[b], true);
            case 8 -> {
                int[] match = match(expressions[a], whole, 0);
                if (match != null) {
                    print(whole.substring(match[0], match[1]));
                }
            }
            case 9 -> print(String.valueOf(counters[a]));
            case 11 -> counters[a] = b;
            case 12 -> counters[a] = lines;
            default -> { }
        }
    }

    private void print(String text) {
        all.append(text).append('\n');
    }

    private static String cut(String text) {
        return text.substring(0, Math.min(120, text.length()));
    }

    private void set(int a, String text) {
        while (fields.size() < a) {
            fields.add("");
        }
        fields.set(a - 1, text);
        whole = cut(String.join(String.valueOf(separator), fields));
    }

    private void replace(String wanted, String text, boolean every) {
        List<int[]> matches = new ArrayList<>();
        int[] match = match(wanted, whole, 0);
        while (match != null) {
            matches.add(match);
            int before = match[1];
            match = every ? match(wanted, whole, before) : null;
            if (match != null && match[0] == before && match[1] == before) {
                match = before < whole.length() ? match(wanted, whole, before + 1) : null;
            }
        }
        StringBuilder line = new StringBuilder(whole);
        for (int n = matches.size() - 1; n >= 0; n--) {
            line.replace(matches.get(n)[0], matches.get(n)[1], text);
        }
        whole = cut(line.toString());
        fields = parts(whole);
    }

    /** A walk from sign to sign over what may come next; -1 without a fault. */
    static int fault(String text) {
        int depth = 0;
        boolean atomBefore = false;
        int i = 0;
        while (i < text.length()) {
            char sign = text.charAt(i);
            if (sign == '[') {
                int[] behind = behindItems(text, i + 1);
                if (behind[1] >= 0) {
                    return behind[1];
                }
                i = behind[0];
                atomBefore = true;
                continue;
            }
            if (sign == ']' || !atomBefore && "*+?".indexOf(sign) >= 0 || sign == ')' && depth == 0
                || sign == '(' && depth == 10) {
                return i;
            }
            if (sign == '\\') {
                i++;
                if (i == text.length()) {
                    return i;
                }
            }
            depth += sign == '(' ? 1 : sign == ')' ? -1 : 0;
            atomBefore = sign != '(' && sign != '|';
            i++;
        }
        return depth > 0 ? text.length() : -1;
    }

    /** Where the text goes on behind "]", and the fault or -1. */
    private static int[] behindItems(String text, int from) {
        int i = from < text.length() && text.charAt(from) == '^' ? from + 1 : from;
        boolean any = false;
        boolean mayRange = false;
        while (i < text.length()) {
            char sign = text.charAt(i);
            if (sign == ']') {
                return any ? new int[] {i + 1, -1} : new int[] {0, i};
            }
            if (sign == '\\' || sign == '-' && !mayRange) {
                return new int[] {0, i};
            }
            if (sign == '-') {
                char low = text.charAt(i - 1);
                i++;
                if (i == text.length() || "]\\-".indexOf(text.charAt(i)) >= 0 || text.charAt(i) < low) {
                    return new int[] {0, i};
                }
                mayRange = false;
            } else {
                any = true;
                mayRange = true;
            }
            i++;
        }
        return new int[] {0, text.length()};
    }

    /** The begin and the end of what is found, or null. */
    static int[] match(String wanted, String text, int place) {
        for (int s = place; s <= text.length(); s++) {
            TreeSet<Integer> ends = new Matching(wanted, text).ends(s);
            if (!ends.isEmpty()) {
                return new int[] {s, ends.last()};
            }
        }
        return null;
    }

    /** Reads a faultless expression and, at once, tells from a set of places the places behind its matches. */
    private static final class Matching {
        private final String wanted;
        private final String text;

        Matching(String wanted, String text) {
            this.wanted = wanted;
            this.text = text;
        }

        TreeSet<Integer> ends(int s) {
            return alternation(0, wanted.length(), Set.of(s));
        }

        private TreeSet<Integer> alternation(int from, int to, Set<Integer> starts) {
            TreeSet<Integer> ends = new TreeSet<>();
            int begin = from;
            for (int i = from; i <= to; i = i == to ? i + 1 : behindAtom(i)) {
                if (i == to || wanted.charAt(i) == '|') {
                    ends.addAll(sequence(begin, i, starts));
                    begin = i + 1;
                }
            }
            return ends;
        }

        private Set<Integer> sequence(int from, int to, Set<Integer> starts) {
            Set<Integer> places = starts;
            int i = from;
            while (i < to) {
                int behind = behindAtom(i);
                int repeats = behind;
                while (repeats < to && "*+?".indexOf(wanted.charAt(repeats)) >= 0) {
                    repeats++;
                }
                places = piece(i, behind, repeats, places);
                i = repeats;
            }
            return places;
        }

        private Set<Integer> piece(int from, int behind, int repeats, Set<Integer> starts) {
            if (repeats == behind) {
                return atom(from, behind, starts);
            }
            char repeat = wanted.charAt(repeats - 1);
            TreeSet<Integer> ends = new TreeSet<>(piece(from, behind, repeats - 1, starts));
            if (repeat == '?') {
                ends.addAll(starts);
                return ends;
            }
            Set<Integer> latest = ends;
            while (true) {
                TreeSet<Integer> more = new TreeSet<>(piece(from, behind, repeats - 1, latest));
                more.removeAll(ends);
                if (more.isEmpty()) {
                    break;
                }
                ends.addAll(more);
                latest = more;
            }
            if (repeat == '*') {
                ends.addAll(starts);
            }
            return ends;
        }

        private Set<Integer> atom(int from, int behind, Set<Integer> starts) {
            char sign = wanted.charAt(from);
            if (sign == '(') {
                return alternation(from + 1, behind - 1, starts);
            }
            TreeSet<Integer> ends = new TreeSet<>();
            for (int s : starts) {
                if (sign == '^' && s == 0 || sign == '$' && s == text.length()) {
                    ends.add(s);
                } else if (sign != '^' && sign != '$' && s < text.length() && takes(from, behind, text.charAt(s))) {
                    ends.add(s + 1);
                }
            }
            return ends;
        }

        private boolean takes(int from, int behind, char sign) {
            char first = wanted.charAt(from);
            if (first == '[') {
                boolean others = wanted.charAt(from + 1) == '^';
                boolean is = false;
                for (int i = others ? from + 2 : from + 1; i < behind - 1; i++) {
                    char low = wanted.charAt(i);
                    char high = low;
                    if (wanted.charAt(i + 1) == '-') {
                        high = wanted.charAt(i + 2);
                        i += 2;
                    }
                    is |= low <= sign && sign <= high;
                }
                return is != others;
            }
            return first == '.' || sign == (first == '\\' ? wanted.charAt(from + 1) : first);
        }

        private int behindAtom(int from) {
            char sign = wanted.charAt(from);
            if (sign == '\\') {
                return from + 2;
            }
            if (sign == '[') {
                return wanted.indexOf("]", from) + 1;
            }
            if (sign != '(') {
                return from + 1;
            }
            int i = from + 1;
            while (wanted.charAt(i) != ')') {
                i = behindAtom(i);
            }
            return i + 1;
        }
    }
}
