import java.util.ArrayList;
import java.util.Arrays;
import java.util.List;
import java.util.Random;

/**
 * Laws that follow from what the document says plans and machines are, asked of the class alone: no model
 * stands beside it, so these hold or fail whatever else was read in the same way twice.
 */
public final class LawsTest {
    private static final Check CHECK = new Check();
    private static final String[] SAYINGS = {"<a>1", "[a]0", "<a><a>1", "[a]<a>1", "<a>[a]0", "[a][a]0", "!<a>1|<a>[a]0",
        "<a>1&!<a><a>1", "[a](<a>1|[a]0)", "<b>1", "[b]<a>1", "<a><b>1|[c]0", "<a>!<b>1&[b]1", "![a]!<c>1"};

    private final String name;
    private final List<String> texts;
    private final int many;
    // stays[i][j] has bit 6 * s + t where the pair stays.
    private final long[][] stays;

    private LawsTest(String name, List<String> texts) {
        this.name = name;
        this.texts = texts;
        many = texts.size();
        stays = new long[many][many];
    }

    public static void main(String[] args) {
        new LawsTest("two states", twoStates()).all();
        for (int seed = 0; seed < 12; seed++) {
            new LawsTest("seed " + seed, kin(new Random(seed))).all();
        }
        CHECK.end();
    }

    private void all() {
        order();
        madeOfOne();
        madeOfTwo();
        sayings();
        walks();
    }

    /** All plans of two states with arrows by a alone. */
    private static List<String> twoStates() {
        List<String> texts = new ArrayList<>();
        for (int code = 0; code < 81; code++) {
            int[] arrows = {code % 3, code / 3 % 3, code / 9 % 3, code / 27};
            texts.add(textOf(2, (s, l, t) -> l == 0 ? arrows[2 * s + t] : 0));
        }
        return texts;
    }

    /** Plans of three states of which some come of others by choices made, so that many are stricter than others. */
    private static List<String> kin(Random random) {
        List<String> texts = new ArrayList<>();
        List<int[]> made = new ArrayList<>();
        for (int k = 0; k < 24; k++) {
            int[] arrows = new int[27];
            int[] parent = k % 4 == 0 ? null : made.get(random.nextInt(made.size()));
            for (int at = 0; at < 27; at++) {
                if (parent == null) {
                    arrows[at] = Math.max(0, random.nextInt(7) - 4);
                } else {
                    boolean chosen = parent[at] == 1 && random.nextInt(3) == 0;
                    arrows[at] = chosen ? 2 * random.nextInt(2) : parent[at];
                }
            }
            made.add(arrows);
            texts.add(textOf(3, (s, l, t) -> arrows[9 * s + 3 * l + t]));
        }
        return texts;
    }

    private interface Arrows {
        int at(int s, int letter, int t);
    }

    private static String textOf(int size, Arrows arrows) {
        StringBuilder b = new StringBuilder("states " + size + ";");
        for (int s = 0; s < size; s++) {
            for (int l = 0; l < 3; l++) {
                for (int t = 0; t < size; t++) {
                    if (arrows.at(s, l, t) > 0) {
                        b.append(arrows.at(s, l, t) == 2 ? "must" : "may").append(s).append("abc".charAt(l)).append(t).append(';');
                    }
                }
            }
        }
        return b.toString();
    }

    private void law(String law, int i, int j, boolean holds) {
        CHECK.that(name + ": " + law + ": " + texts.get(i) + " and " + texts.get(j), holds);
    }

    private Counted both(int i, int j) {
        Counted x = new Counted();
        Check.plan(x, 0, texts.get(i));
        Check.plan(x, 1, texts.get(j));
        return x;
    }

    private boolean stricter(int i, int j) {
        return (stays[i][j] & 1) != 0;
    }

    /** STRICTER goes from each plan to itself, and over a plan between; ALIKE is both ways. */
    private void order() {
        for (int i = 0; i < many; i++) {
            for (int j = 0; j < many; j++) {
                Counted x = both(i, j);
                for (int s = 0; s < x.states(0, 0); s++) {
                    for (int t = 0; t < x.states(1, 0); t++) {
                        stays[i][j] |= x.stays(0, s, 1, t) == 0 ? 1L << 6 * s + t : 0;
                    }
                }
                law("the pair of both STATES 0", i, j, x.stricter(0, 1, 0) == (stricter(i, j) ? 1 : 0));
                law("alike", i, j, x.alike(0, 1) == x.stricter(0, 1, 0) * x.stricter(1, 0, 0));
            }
        }
        int pairs = 0;
        for (int i = 0; i < many; i++) {
            law("as strict as itself", i, i, stricter(i, i));
            for (int j = 0; j < many; j++) {
                pairs += stricter(i, j) ? 1 : 0;
                for (int k = 0; k < many; k++) {
                    law("one between", i, k, !stricter(i, j) || !stricter(j, k) || stricter(i, k));
                }
            }
        }
        CHECK.that(name + ": some are stricter than others, some not", pairs > many && pairs < many * many);
    }

    /** The least and the greatest machine are machines of the plan; a small plan is alike. */
    private void madeOfOne() {
        for (int i = 0; i < many; i++) {
            Counted x = both(i, i);
            for (int what = 0; what < 2; what++) {
                x.make(0, what, 2);
                law("a machine has no CHOICES", i, i, x.states(2, 2) == 0);
                law("a machine of the plan", i, i, x.stricter(2, 0, 0) == 1);
            }
            int size = x.make(0, 2, 2);
            law("small and alike", i, i, size <= x.states(0, 0) && x.alike(0, 2) == 1);
            law("small already", i, i, x.make(2, 2, 3) == size && x.alike(0, 3) == 1);
        }
    }

    private void madeOfTwo() {
        boolean few = texts.get(0).startsWith("states 2");
        for (int i = 0; i < many; i++) {
            for (int j = 0; j < many; j++) {
                bothAtOnce(i, j);
                sideBySide(i, j);
                if (stricter(i, j)) {
                    sideBySideKeepsOrder(i, j);
                }
                if (few && oneWay(i) && oneWay(j)) {
                    greatestOfBoth(i, j);
                }
            }
        }
    }

    /** BOTH AT ONCE is stricter than each of the two; where there is no such plan, no other plan is it either. */
    private void bothAtOnce(int i, int j) {
        Counted x = both(i, j);
        int size = x.join(0, 1, 1, 2);
        law("both at once, the other way round", i, j, x.join(1, 0, 1, 3) == size);
        if (size > 0) {
            law("both at once", i, j, x.stricter(2, 0, 0) == 1 && x.stricter(2, 1, 0) == 1);
            law("both at once, alike the other way round", i, j, x.alike(2, 3) == 1);
        }
        for (int k = 0; k < many && size == MayMust.STATE; k++) {
            law("no plan is both, where they clash", i, j, !stricter(k, i) || !stricter(k, j));
        }
    }

    private void sideBySide(int i, int j) {
        Counted x = both(i, j);
        int size = x.join(0, 1, 0, 2);
        law("side by side, the other way round", i, j, x.join(1, 0, 0, 3) == size);
        law("side by side, alike the other way round", i, j, size == MayMust.FULL || x.alike(2, 3) == 1);
    }

    /** Beside a third plan the stricter one stays the stricter one. */
    private void sideBySideKeepsOrder(int i, int j) {
        Counted x = both(i, j);
        Check.plan(x, 2, texts.get((i + 7 * j) % many));
        if (x.join(0, 2, 0, 3) > 0 && x.join(1, 2, 0, 4) > 0) {
            law("side by side keeps the order", i, j, x.stricter(3, 4, 0) == 1);
        }
    }

    /** From each state at most one arrow by a. */
    private boolean oneWay(int i) {
        return Arrays.stream(new String[] {"0a", "1a"}).allMatch(from -> texts.get(i).split(from, -1).length <= 2);
    }

    /** Of plans that go one way, each plan that is stricter than both is stricter than BOTH AT ONCE. */
    private void greatestOfBoth(int i, int j) {
        Counted x = both(i, j);
        if (x.join(0, 1, 1, 2) < 0) {
            return;
        }
        Check.plan(x, 3, "states 2;");
        for (int k = 0; k < many; k++) {
            for (int at = 0; at < 4; at++) {
                String arrow = at / 2 + "a" + at % 2;
                boolean must = texts.get(k).contains("must" + arrow);
                x.put(3, at / 2, 0, at % 2, must ? 2 : texts.get(k).contains(arrow) ? 1 : 0);
            }
            law("stricter than both, " + texts.get(k), i, j,
                x.stricter(3, 2, 0) == (stricter(k, i) && stricter(k, j) ? 1 : 0));
        }
    }

    /** What is so in a plan, or not so, is it in each stricter one; in a machine nothing depends. */
    private void sayings() {
        for (String saying : SAYINGS) {
            int[][] values = new int[many][6];
            for (int i = 0; i < many; i++) {
                Counted x = both(i, i);
                Check.say(x, saying);
                for (int s = 0; s < x.states(0, 0); s++) {
                    values[i][s] = x.value(0, s);
                }
                x.make(0, i % 2, 1);
                law("nothing depends, " + saying, i, i, x.how(1, 1) == 0);
            }
            for (int i = 0; i < many; i++) {
                for (int j = 0; j < many; j++) {
                    for (int at = 0; at < 36; at++) {
                        int of = values[i][at / 6];
                        int wide = values[j][at % 6];
                        law("kept, " + saying, i, j, (stays[i][j] >> at & 1) == 0 || wide == 1 || wide == of);
                    }
                }
            }
        }
    }

    /** What may come in a plan may come in each one that it is stricter than; what must be there in that, in it, too. */
    private void walks() {
        for (int i = 0; i < many; i++) {
            for (int j = 0; j < many; j++) {
                if (!stricter(i, j)) {
                    continue;
                }
                Random random = new Random(i * 100L + j);
                Counted left = both(i, i);
                Counted right = both(j, j);
                left.begin(0);
                right.begin(0);
                for (int step = 0; step < 8; step++) {
                    law("may come", i, j, (left.walk(1) & ~right.walk(1)) == 0);
                    law("must be there", i, j, (right.walk(2) & ~left.walk(2)) == 0);
                    int letter = random.nextInt(3);
                    law("gone in both", i, j, left.go(letter) < 0 || right.walk(3) == step && right.go(letter) > 0);
                    if (left.walk(3) <= step) {
                        break;
                    }
                }
            }
        }
    }
}
