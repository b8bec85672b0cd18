import java.util.Random;

/** Runs of calls with fixed seeds: the class answers what the model answers. */
public final class ModelTest {
    private static final Check CHECK = new Check();
    private static final int RUNS = 9000;
    // Room for one more turn of calls (a text of 300 bytes, told and read) and for the look at the end.
    private static final int LAST_TURN = Counted.MOST_CALLS - 50 - 140;
    private static int planFaults = 0;
    private static int sayFaults = 0;
    private static int plansRead = 0;
    private static int sayingsRead = 0;

    private final Random random;
    private final int run;
    private final Counted x = new Counted();
    private final Model m = new Model();
    // How dense the plans of this run are, so that clashes and full joins come in some runs each.
    private final int density;

    private ModelTest(int run) {
        this.run = run;
        random = new Random(run);
        density = 1 + random.nextInt(12);
    }

    public static void main(String[] args) {
        for (int run = 0; run < RUNS; run++) {
            new ModelTest(run).play();
        }
        System.out.println(plansRead + " plans and " + sayingsRead + " sayings were read, "
            + planFaults + " and " + sayFaults + " had a fault");
        CHECK.that("all of these came", Math.min(Math.min(planFaults, sayFaults), Math.min(plansRead, sayingsRead)) > RUNS / 4);
        CHECK.end();
    }

    private void due(String call, int want, int got) {
        CHECK.due("run " + run + ", call " + x.calls() + ": " + call, want, got);
    }

    private void play() {
        while (x.calls() < LAST_TURN) {
            switch (random.nextInt(14)) {
                case 0, 1 -> tellPlan();
                case 2, 3 -> tellSaying();
                case 4 -> compare();
                case 5 -> make();
                case 6, 7 -> join();
                case 8 -> sayings();
                case 9, 10 -> walks();
                case 11 -> arrows();
                case 12 -> counts();
                default -> typing();
            }
        }
        looksWhole(random.nextInt(6));
        walks();
        counts();
    }

    /** Mostly a number below n, sometimes one beside it. */
    private int below(int n) {
        return switch (random.nextInt(60)) {
            case 0 -> n;
            case 1 -> -1;
            case 2 -> random.nextInt();
            default -> random.nextInt(n);
        };
    }

    private int stateOf(int i) {
        return below(i >= 0 && i < 6 ? m.states(i, 0) : 6);
    }

    private void tell(String text) {
        due("clear()", m.clear(), x.clear());
        for (int from = 0; from < text.length(); from += 8) {
            int n = Math.min(8, text.length() - from);
            long v = random.nextLong();
            for (int k = 0; k < n; k++) {
                v = v << 8 | text.charAt(from + k);
            }
            due("type('" + text.substring(from, from + n) + "')", m.type(v, n), x.type(v, n));
        }
    }

    private String blanks() {
        return random.nextInt(8) == 0 ? " ".repeat(random.nextInt(3)) : "";
    }

    private void tellPlan() {
        int size = 1 + random.nextInt(6);
        StringBuilder b = new StringBuilder(blanks() + "states " + blanks() + size + blanks() + ";");
        int items = random.nextInt(1 + size * density);
        for (int k = 0; k < items && b.length() < 270; k++) {
            b.append(blanks()).append(random.nextBoolean() ? "may " : "must ").append(random.nextInt(size))
                .append(random.nextInt(3) == 0 ? "" : " ").append("abc".charAt(random.nextInt(3))).append(blanks())
                .append(random.nextInt(size)).append(blanks()).append(";");
        }
        tell(broken(b.toString()));
        int i = below(6);
        int items2 = m.plan(i);
        due("plan(" + i + ")", items2, x.plan(i));
        planFaults += items2 <= -10 ? 1 : 0;
        plansRead += items2 >= 0 ? 1 : 0;
        looks(i);
    }

    private void tellSaying() {
        StringBuilder b = new StringBuilder();
        boths(b, 1 + random.nextInt(11));
        String text = b.length() > 290 ? b.substring(0, 290) : b.toString();
        tell(broken(text));
        int bits = m.say();
        due("say() of '" + text + "'", bits, x.say());
        sayFaults += bits <= -10 ? 1 : 0;
        sayingsRead += bits >= 0 ? 1 : 0;
    }

    private void boths(StringBuilder b, int depth) {
        unit(b, depth);
        int more = random.nextInt(4) == 0 ? random.nextInt(6) : random.nextInt(2);
        for (int k = 0; k < more; k++) {
            b.append(blanks()).append("|&".charAt(random.nextInt(2))).append(blanks());
            unit(b, depth);
        }
    }

    private void unit(StringBuilder b, int depth) {
        char letter = "abc".charAt(random.nextInt(3));
        switch (depth <= 0 ? 0 : random.nextInt(5)) {
            case 0 -> b.append(random.nextInt(2));
            case 1 -> {
                b.append("!").append(blanks());
                unit(b, depth - 1);
            }
            case 2 -> {
                b.append("(");
                boths(b, depth - 1);
                b.append(blanks()).append(")");
            }
            case 3 -> {
                b.append("<").append(letter).append(">").append(blanks());
                unit(b, depth - 1);
            }
            default -> {
                b.append("[").append(letter).append(blanks()).append("]");
                unit(b, depth - 1);
            }
        }
    }

    /** In a third of cases a byte is changed, left out or put in, or the end is cut off. */
    private String broken(String text) {
        if (text.isEmpty() || random.nextInt(3) != 0) {
            return text;
        }
        int at = random.nextInt(text.length());
        String signs = " 0123456789abcdmy;|&!()<>[]A$\t" + (char) random.nextInt(256);
        char sign = signs.charAt(random.nextInt(signs.length()));
        return switch (random.nextInt(4)) {
            case 0 -> text.substring(0, at) + sign + text.substring(at + 1);
            case 1 -> text.substring(0, at) + text.substring(at + 1);
            case 2 -> text.substring(0, at) + sign + text.substring(at);
            default -> text.substring(0, at);
        };
    }

    private void looks(int i) {
        for (int what = 0; what < 3; what++) {
            due("states(" + i + ", " + what + ")", m.states(i, what), x.states(i, what));
        }
        for (int k = 0; k < 6; k++) {
            looksAt(i, stateOf(i), below(3), stateOf(i));
        }
    }

    private void looksWhole(int i) {
        for (int k = 0; k < 108; k++) {
            looksAt(i, k / 18, k / 6 % 3, k % 6);
        }
    }

    private void looksAt(int i, int s, int letter, int t) {
        due("arrow(" + i + ", " + s + ", " + letter + ", " + t + ")", m.arrow(i, s, letter, t), x.arrow(i, s, letter, t));
    }

    private void compare() {
        int i = below(6);
        int j = below(6);
        for (int what = 0; what < 4; what++) {
            due("stricter(" + i + ", " + j + ", " + what + ")", m.stricter(i, j, what), x.stricter(i, j, what));
        }
        int s = stateOf(i);
        int t = stateOf(j);
        due("stays(" + i + ", " + s + ", " + j + ", " + t + ")", m.stays(i, s, j, t), x.stays(i, s, j, t));
        due("alike(" + i + ", " + j + ")", m.alike(i, j), x.alike(i, j));
        int what = below(4);
        due("stricter(" + i + ", " + j + ", " + what + ")", m.stricter(i, j, what), x.stricter(i, j, what));
    }

    private void make() {
        int i = below(6);
        int what = random.nextBoolean() ? 2 : below(3);
        int to = below(6);
        due("make(" + i + ", " + what + ", " + to + ")", m.make(i, what, to), x.make(i, what, to));
        looks(to);
    }

    private void join() {
        int i = below(6);
        int j = below(6);
        int what = below(2);
        int to = below(6);
        due("join(" + i + ", " + j + ", " + what + ", " + to + ")", m.join(i, j, what, to), x.join(i, j, what, to));
        looks(to);
    }

    private void sayings() {
        int i = below(6);
        int s = stateOf(i);
        due("value(" + i + ", " + s + ")", m.value(i, s), x.value(i, s));
        for (int v = 0; v < 3; v++) {
            due("how(" + i + ", " + v + ")", m.how(i, v), x.how(i, v));
        }
        int v = below(3);
        due("how(" + i + ", " + v + ")", m.how(i, v), x.how(i, v));
    }

    private void walks() {
        if (random.nextInt(3) == 0) {
            int i = below(6);
            due("begin(" + i + ")", m.begin(i), x.begin(i));
        }
        for (int k = random.nextInt(20); k > 0; k--) {
            int letter = below(3);
            due("go(" + letter + ")", m.go(letter), x.go(letter));
        }
        for (int what = 0; what < 4; what++) {
            due("walk(" + what + ")", m.walk(what), x.walk(what));
        }
        int what = below(4);
        due("walk(" + what + ")", m.walk(what), x.walk(what));
    }

    private void arrows() {
        int i = below(6);
        int s = stateOf(i);
        int l = below(3);
        int t = stateOf(i);
        int v = below(3);
        due("put(" + i + ", " + s + ", " + l + ", " + t + ", " + v + ")", m.put(i, s, l, t, v), x.put(i, s, l, t, v));
        due("arrow(" + i + ", " + s + ", " + l + ", " + t + ")", m.arrow(i, s, l, t), x.arrow(i, s, l, t));
        looks(i);
    }

    private void counts() {
        for (int what = 0; what < 3; what++) {
            due("count(" + what + ")", m.count(what), x.count(what));
        }
        int what = below(3);
        due("count(" + what + ")", m.count(what), x.count(what));
    }

    private void typing() {
        long v = random.nextLong();
        int n = below(9);
        due("type(" + v + ", " + n + ")", m.type(v, n), x.type(v, n));
    }
}
