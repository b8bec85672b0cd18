import java.util.ArrayDeque;
import java.util.ArrayList;
import java.util.Arrays;
import java.util.Deque;
import java.util.HashSet;
import java.util.List;
import java.util.Set;
import java.util.TreeSet;

/** A second reading of the document, plain and slow, without the ways of the class. */
final class Model {
    static final int BAD = -1, STATE = -2, FULL = -3, NONE = -9;

    /** arrows[s][letter][t]. */
    static final class Machine {
        int size = 1;
        int[][][] arrows = new int[6][3][6];

        Machine copy() {
            Machine m = new Machine();
            m.size = size;
            for (int s = 0; s < 6; s++) {
                for (int l = 0; l < 3; l++) {
                    m.arrows[s][l] = arrows[s][l].clone();
                }
            }
            return m;
        }
    }

    private record Token(String word, int place) { }

    private record Pair(int s, int t) { }

    private final Machine[] plans = new Machine[6];
    private String text = "";
    private List<String> saying = List.of("1");
    private Machine ground = new Machine();
    private Set<Integer> where = new TreeSet<>(Set.of(0));
    private int gone = 0;

    Model() {
        for (int i = 0; i < 6; i++) {
            plans[i] = new Machine();
        }
    }

    private boolean isPlan(int i) {
        return 0 <= i && i <= 5;
    }

    private boolean isState(int i, int s) {
        return isPlan(i) && 0 <= s && s < plans[i].size;
    }

    int type(long v, int n) {
        if (n < 1 || n > 8) {
            return BAD;
        }
        if (text.length() + n > 300) {
            return FULL;
        }
        byte[] all = java.nio.ByteBuffer.allocate(8).putLong(v).array();
        for (int k = 8 - n; k < 8; k++) {
            text += (char) (all[k] & 255);
        }
        return text.length();
    }

    int clear() {
        int had = text.length();
        text = "";
        return had;
    }

    /** The tokens; a wrong one is told by its place with the word "?", and ends them. */
    private List<Token> tokens() {
        List<Token> list = new ArrayList<>();
        java.util.regex.Matcher m = java.util.regex.Pattern
            .compile("[a-z]+|[0-9]+|[;|&!()<>\\[\\]]|(?s:.)").matcher(text);
        while (m.find()) {
            String w = m.group();
            if (w.equals(" ")) {
                continue;
            }
            boolean fine = w.matches("states|may|must|a|b|c|[;|&!()<>\\[\\]]|[0-9]|[1-9][0-9]");
            list.add(new Token(fine ? w : "?", m.start()));
        }
        list.add(new Token("", text.length()));
        return list;
    }

    /** At each token what may stand there is known; the first one that is not among these is the fault. */
    int plan(int i) {
        if (!isPlan(i)) {
            return BAD;
        }
        Machine m = new Machine();
        int items = 0;
        int phase = 0;
        int s = 0;
        int l = 0;
        int t = 0;
        int v = 0;
        for (Token token : tokens()) {
            String w = token.word;
            boolean state = w.matches("[0-9]+") && Integer.parseInt(w) < m.size;
            boolean fine = switch (phase) {
                case 0 -> w.equals("states");
                case 1 -> w.matches("[1-6]");
                case 2, 7 -> w.equals(";");
                case 3 -> w.equals("may") || w.equals("must") || w.isEmpty();
                case 4, 6 -> state;
                default -> w.matches("[abc]");
            };
            if (!fine) {
                return -10 - token.place;
            }
            if (w.isEmpty()) {
                break;
            }
            switch (phase) {
                case 1 -> m.size = Integer.parseInt(w);
                case 3 -> v = w.equals("may") ? 1 : 2;
                case 4 -> s = Integer.parseInt(w);
                case 5 -> l = w.charAt(0) - 'a';
                case 6 -> t = Integer.parseInt(w);
                case 7 -> {
                    m.arrows[s][l][t] = Math.max(m.arrows[s][l][t], v);
                    items++;
                }
                default -> { }
            }
            phase = phase == 7 ? 3 : phase + 1;
        }
        plans[i] = m;
        text = "";
        return items;
    }

    int say() {
        List<String> words = new ArrayList<>();
        Deque<String> open = new ArrayDeque<>();
        int bits = 0;
        // What is due: a unit, a letter, a close of that letter, or something after a unit.
        String due = "unit";
        for (Token token : tokens()) {
            String w = token.word;
            int fault = -10 - token.place;
            if (due.equals("unit")) {
                if (w.equals("0") || w.equals("1")) {
                    if (++bits > 24) {
                        return fault;
                    }
                    closeUnits(open);
                    due = "after";
                } else if (w.length() == 1 && "!(<[".contains(w)) {
                    if (open.size() == 10) {
                        return fault;
                    }
                    open.push(w);
                    due = "<[".contains(w) ? "letter" : "unit";
                } else {
                    return fault;
                }
            } else if (due.equals("letter")) {
                if (!w.matches("[abc]")) {
                    return fault;
                }
                due = "close";
            } else if (due.equals("close")) {
                if (!w.equals(open.peek().equals("<") ? ">" : "]")) {
                    return fault;
                }
                due = "unit";
            } else if (w.equals("|") || w.equals("&")) {
                due = "unit";
            } else if (w.equals(")") && "(".equals(open.peek())) {
                open.pop();
                closeUnits(open);
            } else if (!w.isEmpty() || !open.isEmpty()) {
                return fault;
            }
            words.add(w);
        }
        saying = words;
        text = "";
        return bits;
    }

    private static void closeUnits(Deque<String> open) {
        while (!open.isEmpty() && !open.peek().equals("(")) {
            open.pop();
        }
    }

    int states(int i, int what) {
        if (!isPlan(i) || what < 0 || what > 2) {
            return BAD;
        }
        if (what == 0) {
            return plans[i].size;
        }
        int found = 0;
        for (int[][] rows : plans[i].arrows) {
            for (int[] row : rows) {
                for (int v : row) {
                    found += v == (what == 1 ? 2 : 1) ? 1 : 0;
                }
            }
        }
        return found;
    }

    int arrow(int i, int s, int letter, int t) {
        if (!isState(i, s) || !isState(i, t) || letter < 0 || letter > 2) {
            return BAD;
        }
        return plans[i].arrows[s][letter][t];
    }

    int put(int i, int s, int letter, int t, int v) {
        int was = arrow(i, s, letter, t);
        if (was == BAD || v < 0 || v > 2) {
            return BAD;
        }
        plans[i].arrows[s][letter][t] = v;
        return was;
    }

    /** The side by which a pair has to go by a letter (0: it need not), by the pairs that stay. */
    private static int side(Machine p, Machine q, int s, int t, int l, Set<Pair> stay) {
        for (int s2 = 0; s2 < p.size; s2++) {
            boolean met = p.arrows[s][l][s2] == 0;
            for (int t2 = 0; t2 < q.size; t2++) {
                met |= q.arrows[t][l][t2] > 0 && stay.contains(new Pair(s2, t2));
            }
            if (!met) {
                return 1;
            }
        }
        for (int t2 = 0; t2 < q.size; t2++) {
            boolean met = q.arrows[t][l][t2] != 2;
            for (int s2 = 0; s2 < p.size; s2++) {
                met |= p.arrows[s][l][s2] == 2 && stay.contains(new Pair(s2, t2));
            }
            if (!met) {
                return 2;
            }
        }
        return 0;
    }

    /** went[s][t] the round; went[6][0] and went[6][1] letter and side of why. */
    private static int[][] rounds(Machine p, Machine q) {
        int[][] went = new int[7][6];
        went[6][0] = NONE;
        Set<Pair> stay = new HashSet<>();
        for (int s = 0; s < p.size; s++) {
            for (int t = 0; t < q.size; t++) {
                stay.add(new Pair(s, t));
            }
        }
        for (int round = 1; ; round++) {
            Set<Pair> left = new HashSet<>(stay);
            for (Pair pair : stay) {
                for (int l = 2; l >= 0; l--) {
                    int side = side(p, q, pair.s, pair.t, l, stay);
                    if (side != 0) {
                        left.remove(pair);
                        went[pair.s][pair.t] = round;
                        if (pair.s == 0 && pair.t == 0) {
                            went[6][0] = l;
                            went[6][1] = side;
                        }
                    }
                }
            }
            if (left.size() == stay.size()) {
                return went;
            }
            stay = left;
        }
    }

    int stricter(int i, int j, int what) {
        if (!isPlan(i) || !isPlan(j) || what < 0 || what > 3) {
            return BAD;
        }
        int[][] went = rounds(plans[i], plans[j]);
        return switch (what) {
            case 0 -> went[0][0] == 0 ? 1 : 0;
            case 1 -> went[0][0];
            case 2 -> went[6][0];
            default -> went[6][1];
        };
    }

    int stays(int i, int s, int j, int t) {
        if (!isState(i, s) || !isState(j, t)) {
            return BAD;
        }
        return rounds(plans[i], plans[j])[s][t];
    }

    int alike(int i, int j) {
        return !isPlan(i) || !isPlan(j) ? BAD : stricter(i, j, 0) * stricter(j, i, 0);
    }

    int make(int i, int what, int to) {
        if (!isPlan(i) || !isPlan(to) || what < 0 || what > 2) {
            return BAD;
        }
        Machine m = plans[i].copy();
        if (what == 2) {
            m = small(m);
        } else {
            for (int[][] rows : m.arrows) {
                for (int[] row : rows) {
                    for (int t = 0; t < 6; t++) {
                        row[t] = row[t] == 1 ? 2 * what : row[t];
                    }
                }
            }
        }
        plans[to] = m;
        return m.size;
    }

    private static Machine small(Machine p) {
        int[][] went = rounds(p, p);
        List<Integer> heads = new ArrayList<>();
        int[] head = new int[6];
        for (int s = 0; s < p.size; s++) {
            head[s] = s;
            for (int h : heads) {
                if (went[s][h] == 0 && went[h][s] == 0) {
                    head[s] = h;
                }
            }
            if (head[s] == s) {
                heads.add(s);
            }
        }
        int[][][] joined = new int[6][3][6];
        for (int s : heads) {
            for (int l = 0; l < 3; l++) {
                for (int t = 0; t < p.size; t++) {
                    joined[s][l][head[t]] = Math.max(joined[s][l][head[t]], p.arrows[s][l][t]);
                }
            }
        }
        Set<Integer> come = new TreeSet<>();
        reach(joined, 0, come);
        List<Integer> order = new ArrayList<>(come);
        Machine m = new Machine();
        m.size = order.size();
        for (int s = 0; s < m.size; s++) {
            for (int l = 0; l < 3; l++) {
                for (int t = 0; t < m.size; t++) {
                    m.arrows[s][l][t] = joined[order.get(s)][l][order.get(t)];
                }
            }
        }
        return m;
    }

    private static void reach(int[][][] arrows, int s, Set<Integer> come) {
        if (come.add(s)) {
            for (int[] row : arrows[s]) {
                for (int t = 0; t < 6; t++) {
                    if (row[t] > 0) {
                        reach(arrows, t, come);
                    }
                }
            }
        }
    }

    int join(int i, int j, int what, int to) {
        if (!isPlan(i) || !isPlan(j) || !isPlan(to) || what < 0 || what > 1) {
            return BAD;
        }
        Machine p = plans[i];
        Machine q = plans[j];
        Set<Pair> clash = what == 1 ? clashes(p, q) : Set.of();
        if (clash.contains(new Pair(0, 0))) {
            return STATE;
        }
        List<Pair> order = new ArrayList<>(List.of(new Pair(0, 0)));
        List<int[]> rows = new ArrayList<>();
        for (int k = 0; k < order.size(); k++) {
            Pair from = order.get(k);
            for (int l = 0; l < 3; l++) {
                for (int s = 0; s < p.size; s++) {
                    for (int t = 0; t < q.size; t++) {
                        int one = p.arrows[from.s][l][s];
                        int two = q.arrows[from.t][l][t];
                        Pair pair = new Pair(s, t);
                        if (one * two == 0 || clash.contains(pair)) {
                            continue;
                        }
                        if (!order.contains(pair)) {
                            order.add(pair);
                        }
                        rows.add(new int[] {k, l, order.indexOf(pair), what == 0 ? Math.min(one, two) : Math.max(one, two)});
                    }
                }
            }
        }
        if (order.size() > 6) {
            return FULL;
        }
        Machine m = new Machine();
        m.size = order.size();
        for (int[] r : rows) {
            m.arrows[r[0]][r[1]][r[2]] = r[3];
        }
        plans[to] = m;
        return m.size;
    }

    private static Set<Pair> clashes(Machine p, Machine q) {
        Set<Pair> clash = new HashSet<>();
        int before = -1;
        while (before != clash.size()) {
            before = clash.size();
            for (int s = 0; s < p.size; s++) {
                for (int t = 0; t < q.size; t++) {
                    for (int l = 0; l < 3; l++) {
                        int[] one = p.arrows[s][l];
                        int[] two = q.arrows[t][l];
                        boolean[] metLeft = new boolean[6];
                        boolean[] metRight = new boolean[6];
                        for (int k = 0; k < 36; k++) {
                            if (one[k / 6] > 0 && two[k % 6] > 0 && !clash.contains(new Pair(k / 6, k % 6))) {
                                metLeft[k / 6] = true;
                                metRight[k % 6] = true;
                            }
                        }
                        for (int k = 0; k < 6; k++) {
                            if (one[k] == 2 && !metLeft[k] || two[k] == 2 && !metRight[k]) {
                                clash.add(new Pair(s, t));
                            }
                        }
                    }
                }
            }
        }
        return clash;
    }

    /** Works a saying out by cutting its words: at the last | outside of ( ), then at the last &. */
    private static int value(Machine m, int s, List<String> w) {
        for (String sign : new String[] {"|", "&"}) {
            int depth = 0;
            for (int k = w.size() - 1; k > 0; k--) {
                depth += w.get(k).equals(")") ? 1 : w.get(k).equals("(") ? -1 : 0;
                if (depth == 0 && w.get(k).equals(sign)) {
                    int left = value(m, s, w.subList(0, k));
                    int right = value(m, s, w.subList(k + 1, w.size()));
                    return sign.equals("|") ? Math.max(left, right) : Math.min(left, right);
                }
            }
        }
        switch (w.get(0)) {
            case "0": return 0;
            case "1": return 2;
            case "!": return 2 - value(m, s, w.subList(1, w.size()));
            case "(": return value(m, s, w.subList(1, w.size() - 1));
            default:
        }
        boolean some = w.get(0).equals("<");
        int best = some ? 0 : 2;
        for (int t = 0; t < m.size; t++) {
            int a = m.arrows[s][w.get(1).charAt(0) - 'a'][t];
            if (a > 0) {
                int v = value(m, t, w.subList(3, w.size()));
                v = a == 2 ? v : some ? Math.min(1, v) : Math.max(1, v);
                best = some ? Math.max(best, v) : Math.min(best, v);
            }
        }
        return best;
    }

    private List<String> words() {
        return saying.stream().filter(w -> !w.isEmpty()).toList();
    }

    int value(int i, int s) {
        return isState(i, s) ? value(plans[i], s, words()) : BAD;
    }

    int how(int i, int v) {
        if (!isPlan(i) || v < 0 || v > 2) {
            return BAD;
        }
        int found = 0;
        for (int s = 0; s < plans[i].size; s++) {
            found += value(i, s) == v ? 1 : 0;
        }
        return found;
    }

    int begin(int i) {
        if (!isPlan(i)) {
            return BAD;
        }
        int had = gone;
        ground = plans[i].copy();
        where = new TreeSet<>(Set.of(0));
        gone = 0;
        return had;
    }

    int go(int letter) {
        if (letter < 0 || letter > 2) {
            return BAD;
        }
        Set<Integer> next = new TreeSet<>();
        for (int s : where) {
            for (int t = 0; t < 6; t++) {
                if (ground.arrows[s][letter][t] > 0) {
                    next.add(t);
                }
            }
        }
        if (next.isEmpty()) {
            return STATE;
        }
        if (gone + 1 > 200) {
            return FULL;
        }
        gone++;
        where = next;
        return where.size();
    }

    int walk(int what) {
        if (what < 0 || what > 3) {
            return BAD;
        }
        if (what == 3) {
            return gone;
        }
        if (what == 0) {
            return where.stream().mapToInt(s -> 1 << s).sum();
        }
        int set = 0;
        for (int letter = 0; letter < 3; letter++) {
            int l = letter;
            boolean in = what == 1
                ? where.stream().anyMatch(s -> Arrays.stream(ground.arrows[s][l]).max().getAsInt() > 0)
                : where.stream().allMatch(s -> Arrays.stream(ground.arrows[s][l]).max().getAsInt() == 2);
            set += in ? 1 << letter : 0;
        }
        return set;
    }

    int count(int what) {
        return switch (what) {
            case 0 -> Arrays.stream(plans).mapToInt(m -> m.size).sum();
            case 1 -> text.length();
            case 2 -> (int) saying.stream().filter(w -> w.equals("0") || w.equals("1")).count();
            default -> BAD;
        };
    }
}
