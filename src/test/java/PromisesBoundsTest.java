import java.util.Arrays;
import java.util.LinkedHashSet;
import java.util.List;
import java.util.Set;

/**
 * Promises 1 to 19, one by one: each BAD, STATE and FULL that a promise names, with the last number that
 * is allowed and the first that is not, and with nothing changed by a call that is refused.
 */
public final class PromisesBoundsTest {
    private static final Check CHECK = new Check();
    private static final int[] PLAN = {0, 5};
    // Every plan of the object in bounds() has two states.
    private static final int[] OF_TWO = {0, 1};
    private static final int[] LETTER = {0, 2};
    private static final int[] ANY = {Integer.MIN_VALUE, Integer.MAX_VALUE};

    public static void main(String[] args) {
        bounds("type", ANY, new int[] {1, 8});
        bounds("plan", PLAN);
        bounds("states", PLAN, new int[] {0, 2});
        bounds("arrow", PLAN, OF_TWO, LETTER, OF_TWO);
        bounds("put", PLAN, OF_TWO, LETTER, OF_TWO, new int[] {0, 2});
        bounds("stricter", PLAN, PLAN, new int[] {0, 3});
        bounds("stays", PLAN, OF_TWO, PLAN, OF_TWO);
        bounds("alike", PLAN, PLAN);
        bounds("make", PLAN, new int[] {0, 2}, PLAN);
        bounds("join", PLAN, PLAN, new int[] {0, 1}, PLAN);
        bounds("value", PLAN, OF_TWO);
        bounds("how", PLAN, new int[] {0, 2});
        bounds("begin", PLAN);
        bounds("go", LETTER);
        bounds("walk", new int[] {0, 3});
        bounds("count", new int[] {0, 2});
        newObject();
        type();
        typeFull();
        clear();
        plan();
        say();
        states();
        put();
        stricter();
        stays();
        make();
        joinSixAndSeven();
        joinState();
        joinToItself();
        value();
        how();
        begin();
        beginAsItIsNow();
        goTwoHundred();
        goState();
        count();
        CHECK.end();
    }

    // ---- BAD: each number of each call, by itself

    /** Six plans of two states, a saying, a walk of two letters, and a text that is a plan. */
    private static Counted furnished() {
        Counted x = new Counted();
        for (int i = 0; i < 6; i++) {
            Check.plan(x, i, "states 2;must 0 a 1;may 0 b 0;may 0 c 1;may 1 a 0;");
        }
        Check.say(x, "<a>1&[b]0");
        x.begin(0);
        x.go(0);
        x.go(0);
        Check.tell(x, "states 1;may 0 a 0;");
        return x;
    }

    /** Allowed are, for each number, all from the first to the last in its row. */
    private static void bounds(String name, int[]... allowed) {
        int[] fine = new int[allowed.length];
        int[] wrong = new int[allowed.length];
        for (int k = 0; k < allowed.length; k++) {
            fine[k] = Math.max(0, allowed[k][0]);
            wrong[k] = allowed[k] == ANY ? 0 : allowed[k][1] + 1;
        }
        for (int k = 0; k < allowed.length; k++) {
            for (int v : allowed[k] == ANY ? ANY : range(allowed[k])) {
                int[] a = with(fine, k, v);
                CHECK.that(name + Arrays.toString(a) + " is not BAD", furnished().call(name, a) != MayMust.BAD);
            }
            for (int v : outside(allowed[k])) {
                badAndNothingChanges(name, with(fine, k, v));
            }
        }
        badAndNothingChanges(name, wrong);
    }

    private static void badAndNothingChanges(String name, int[] a) {
        Counted x = furnished();
        CHECK.refuses(name + Arrays.toString(a), MayMust.BAD, x, y -> y.call(name, a));
        CHECK.due("the text after " + name + Arrays.toString(a), 1, x.plan(5));
        CHECK.looks("the text after " + name + Arrays.toString(a), x, 5, "states 1;may 0 a 0;");
    }

    private static int[] with(int[] numbers, int at, int v) {
        int[] changed = numbers.clone();
        changed[at] = v;
        return changed;
    }

    private static int[] range(int[] bounds) {
        int[] all = new int[bounds[1] - bounds[0] + 1];
        for (int k = 0; k < all.length; k++) {
            all[k] = bounds[0] + k;
        }
        return all;
    }

    /** Numbers beside the bounds, and those that would be allowed ones if they wrapped around. */
    private static Set<Integer> outside(int[] bounds) {
        Set<Integer> all = new LinkedHashSet<>();
        if (bounds != ANY) {
            int first = bounds[0];
            int last = bounds[1];
            all.addAll(List.of(first - 1, last + 1, -last - 1, last + 6, last + 7, first + 32, last + 32, first + 64,
                first - 32, first + 256, first + 65536));
            all.add(Integer.MIN_VALUE);
            all.add(Integer.MIN_VALUE + first);
            all.add(Integer.MAX_VALUE);
        }
        return all;
    }

    // ---- promises 1 to 8

    private static void newObject() {
        Counted x = new Counted();
        for (int i = 0; i < 6; i++) {
            CHECK.looks("a new object", x, i, "states 1;");
            for (int j = 0; j < 6; j++) {
                CHECK.due("alike at first", 1, x.alike(i, j));
            }
        }
        CHECK.due("states of all", 6, x.count(0));
        CHECK.due("no text", 0, x.count(1));
        CHECK.due("nothing to clear", 0, x.clear());
        CHECK.due("the saying is 1", 1, x.count(2));
        CHECK.due("no letter gone", 0, x.begin(0));
        // An object has nothing of another one.
        Counted y = furnished();
        CHECK.due("the other one's states", 12, y.count(0));
        CHECK.due("its own", 6, x.count(0));
    }

    // "The lowest n (1 .. 8) bytes of v, the highest of them first"
    private static void type() {
        // As many of 1 as bytes count; those above them are no token.
        for (int n = 1; n <= 8; n += 2) {
            Counted x = new Counted();
            long ones = 0x317C317C317C317CL >>> 8;
            long v = n == 7 ? ones | 0xFFL << 56 : ones & (1L << 8 * n) - 1 | -1L << 8 * n;
            CHECK.due("type of " + n, n, x.type(v, n));
            CHECK.due("its bytes", (n + 1) / 2, x.say());
        }
        Counted x = new Counted();
        CHECK.due("eight", 8, x.type(0x28317C3029263021L, 8));
        CHECK.due("'(1|0)&0!' ends in a fault", -17, x.say());
        CHECK.due("the highest bit of eight bytes", 16, x.type(Long.MIN_VALUE, 8));
        CHECK.due("clear", 16, x.clear());
        CHECK.due("byte 128 first", 8, x.type(Long.MIN_VALUE, 8));
        CHECK.due("begins none", -10, x.say());
        CHECK.due("clear", 8, x.clear());
        CHECK.due("of -1 the lowest", 1, x.type(-1, 1));
        CHECK.due("byte 255", -10, x.say());
        CHECK.due("clear", 1, x.clear());
        // The highest first, told in two calls.
        x.type(0x215B, 2);
        x.type(0x635D30L, 3);
        CHECK.due("'![c]0'", 1, x.say());
        CHECK.due("its value", 0, x.value(0, 0));
    }

    // "FULL", on both sides of 300 for each n, is in TermsBoundsTest; here what becomes of the text then.
    private static void typeFull() {
        Counted x = new Counted();
        Check.tell(x, "1|0" + " ".repeat(296));
        CHECK.due("one byte short", 299, x.count(1));
        for (int n = 2; n <= 8; n++) {
            CHECK.due("type of " + n, MayMust.FULL, x.type(0x2424242424242424L, n));
        }
        CHECK.due("not a part of it came", 299, x.count(1));
        CHECK.due("the last byte", 300, x.type(' ', 1));
        for (int n = 1; n <= 8; n++) {
            CHECK.due("type of " + n, MayMust.FULL, x.type('$', n));
        }
        CHECK.due("the text is as it was", 2, x.say());
        CHECK.due("there is room again", 8, x.type(0, 8));
        x.clear();
        Check.tell(x, " ".repeat(300));
        CHECK.due("clear of a full text", 300, x.clear());
        CHECK.due("there is room again", 1, x.type('1', 1));
    }

    private static void clear() {
        Counted x = furnished();
        String before = Check.all(x).replace("text 19", "text 0");
        CHECK.due("clear", 19, x.clear());
        CHECK.same("clear changes nothing else", before, Check.all(x));
        CHECK.due("clear of none", 0, x.clear());
        CHECK.due("no byte is left", -10, x.say());
    }

    // "THE TEXT becomes a PLAN, and is empty then: how many ITEMS. BAD; -10 less FAULT: nothing changes."
    private static void plan() {
        for (int i = 0; i < 6; i++) {
            Counted x = new Counted();
            Check.tell(x, "states 3;must 2 b 1;");
            CHECK.due("plan(" + i + ")", 1, x.plan(i));
            for (int j = 0; j < 6; j++) {
                CHECK.looks("plan(" + i + ")", x, j, j == i ? "states 3;must 2 b 1;" : "states 1;");
            }
            CHECK.due("empty then", 0, x.count(1));
            CHECK.due("so a fault at 0", -10, x.plan(i));
        }
        Counted x = furnished();
        CHECK.due("a plan of fewer states", 1, x.plan(0));
        CHECK.looks("a plan of fewer states", x, 0, "states 1;may 0 a 0;");
        CHECK.due("no items", 0, Check.plan(x, 0, "states 2;"));
        CHECK.looks("nothing of what was", x, 0, "states 2;");
        // The fault comes behind items that could be read: none of them counts.
        Check.tell(x, "states 4;must 1 c 0;must 0 c 0;may 4 a 0;");
        CHECK.refuses("a fault at the end", -10 - 35, x, y -> y.plan(0));
        CHECK.due("BAD ahead of the fault", MayMust.BAD, x.plan(6));
    }

    // "THE TEXT becomes THE SAYING, and is empty then: how many of 0 and 1 it has. -10 less FAULT: nothing changes."
    private static void say() {
        Counted x = furnished();
        String plans = Check.look(x, 0);
        x.clear();
        Check.tell(x, "0|1&!0");
        CHECK.due("say", 3, x.say());
        CHECK.due("empty then", 0, x.count(1));
        CHECK.due("so a fault at 0", -10, x.say());
        CHECK.due("of 0 and 1", 3, x.count(2));
        CHECK.due("its value", 2, x.value(0, 0));
        CHECK.same("no plan changes", plans, Check.look(x, 0));
        Check.tell(x, "0&0&0&0|2");
        CHECK.refuses("a fault at the end", -18, x, Counted::say);
        CHECK.due("a text that is a plan is none", -10, Check.say(x, "states 1;"));
        CHECK.due("the value stays", 2, x.value(0, 0));
    }

    // "STATES of a PLAN (what = 0), ARROWS that MUST be (1), CHOICES (2)."
    private static void states() {
        Counted x = new Counted();
        Check.plan(x, 5, "states 6;");
        for (int k = 0; k < 108; k++) {
            CHECK.due("musts", k, x.states(5, 1));
            x.put(5, k / 18, k / 6 % 3, k % 6, 2);
        }
        CHECK.due("states", 6, x.states(5, 0));
        CHECK.due("all musts", 108, x.states(5, 1));
        CHECK.due("no choices", 0, x.states(5, 2));
        CHECK.due("least of all musts", 6, x.make(5, 0, 0));
        CHECK.due("all musts", 108, x.states(0, 1));
        Check.plan(x, 5, "states 1;");
        CHECK.due("none any more", 0, x.states(5, 1));
    }

    // "An ARROW becomes v (0 .. 2): what it was."
    private static void put() {
        for (int was = 0; was <= 2; was++) {
            for (int v = 0; v <= 2; v++) {
                Counted x = new Counted();
                Check.plan(x, 2, "states 6;");
                CHECK.due("none at first", 0, x.put(2, 5, 2, 5, was));
                CHECK.due("what it was", was, x.put(2, 5, 2, 5, v));
                CHECK.due("it is v", v, x.arrow(2, 5, 2, 5));
                CHECK.due("musts", v == 2 ? 1 : 0, x.states(2, 1));
                CHECK.due("choices", v == 1 ? 1 : 0, x.states(2, 2));
                CHECK.due("not the other way", 0, x.arrow(2, 5, 2, 4));
            }
        }
    }

    // ---- promises 9 to 13

    // "Whether it is STRICTER (what = 0), the ROUND .. (1; 0: it stays), WHY's LETTER (2; NONE), its side (3; 0)."
    private static void stricter() {
        Counted x = new Counted();
        int[] stays = {1, 0, MayMust.NONE, 0};
        for (int what = 0; what < 4; what++) {
            CHECK.due("it stays, what = " + what, stays[what], x.stricter(0, 5, what));
        }
        x.put(0, 0, 2, 0, 2);
        int[] one = {0, 1, 2, 1};
        int[] other = {0, 1, 2, 2};
        for (int what = 0; what < 4; what++) {
            CHECK.due("it went, what = " + what, one[what], x.stricter(0, 5, what));
            CHECK.due("it went the other way round, what = " + what, other[what], x.stricter(5, 0, what));
            CHECK.due("against itself, what = " + what, stays[what], x.stricter(0, 0, what));
        }
    }

    // "The ROUND in which a pair went (0: it stays)."
    private static void stays() {
        Counted x = new Counted();
        Check.plan(x, 0, "states 6;may 5 c 5;");
        Check.plan(x, 1, "states 6;may 5 c 4;may 4 c 5;");
        for (int s = 0; s < 6; s++) {
            for (int t = 0; t < 6; t++) {
                CHECK.due("stays(0, " + s + ", 1, " + t + ")", s == 5 && t < 4 ? 1 : 0, x.stays(0, s, 1, t));
                CHECK.due("stays(1, " + t + ", 0, " + s + ")", t >= 4 && s < 5 ? 1 : 0, x.stays(1, t, 0, s));
            }
        }
    }

    // "LEAST (what = 0), GREATEST (1), SMALL (2) of a PLAN comes to a PLAN (the same, too): STATES."
    private static void make() {
        String text = "states 4;may 0 a 1;must 0 a 2;may 3 c 3;";
        String[] want = {"states 4;must 0 a 2;", "states 4;must 0 a 1;must 0 a 2;must 3 c 3;", "states 2;must 0 a 1;"};
        for (int what = 0; what < 3; what++) {
            for (int to = 0; to < 6; to++) {
                Counted x = new Counted();
                Check.plan(x, 2, text);
                CHECK.due("make(2, " + what + ", " + to + ")", want[what].charAt(7) - '0', x.make(2, what, to));
                for (int i = 0; i < 6; i++) {
                    CHECK.looks("make(2, " + what + ", " + to + ")", x, i, i == to ? want[what] : i == 2 ? text : "states 1;");
                }
            }
        }
    }

    // "FULL: more than 6 STATES"
    private static void joinSixAndSeven() {
        String ring = "states 6;may 0 a 1;may 1 a 2;may 2 a 3;may 3 a 4;may 4 a 5;may 5 a 0;";
        String third = "states 3;may 0 a 1;may 1 a 2;may 2 a 0;";
        String fourth = "states 4;may 0 a 1;may 1 a 2;may 2 a 3;may 3 a 0;";
        // From 0 to six others, or to five of them.
        String three = "states 4;may 0 a 1;may 0 a 2;may 0 a 3;";
        String two = "states 3;may 0 a 1;may 0 a 2;";
        for (int what = 0; what < 2; what++) {
            joined("a ring of six with itself", ring, ring, what, 6);
            joined("rings of six and three", ring, third, what, 6);
            joined("rings of six and four", ring, fourth, what, MayMust.FULL);
            joined("rings of three and four", third, fourth, what, MayMust.FULL);
            joined("one and six", three, two, what, MayMust.FULL);
            joined("one and four", two, two, what, 5);
            joined("one and four and one", two + "may 1 b 0;", two + "may 1 b 1;", what, 6);
            joined("one and four and two", two + "may 1 b 0;may 2 c 0;", two + "may 1 b 1;may 2 c 2;", what, MayMust.FULL);
        }
    }

    private static void joined(String what, String left, String right, int mode, int want) {
        Counted x = new Counted();
        Check.plan(x, 0, left);
        Check.plan(x, 1, right);
        String call = what + ", join(0, 1, " + mode + ", 2)";
        if (want > 0) {
            CHECK.due(call, want, x.join(0, 1, mode, 2));
            CHECK.due(call + ": states", want, x.states(2, 0));
            return;
        }
        Check.plan(x, 2, "states 2;may 1 b 0;");
        CHECK.due(call, want, x.join(0, 1, mode, 2));
        CHECK.looks(call, x, 2, "states 2;may 1 b 0;");
        CHECK.due(call + " to the first", want, x.join(0, 1, mode, 0));
        CHECK.looks(call + " to the first", x, 0, left);
        CHECK.due(call + " to the second", want, x.join(0, 1, mode, 1));
        CHECK.looks(call + " to the second", x, 1, right);
    }

    // "STATE: there is no such PLAN"
    private static void joinState() {
        joined("a must that has no match", "states 1;must 0 b 0;", "states 1;", 1, MayMust.STATE);
        joined("the second one's must", "states 1;", "states 1;must 0 b 0;", 1, MayMust.STATE);
        joined("side by side", "states 1;must 0 b 0;", "states 1;", 0, 1);
        joined("a may that has none", "states 1;may 0 b 0;", "states 1;", 1, 1);
        // Behind more than six pairs the first one clashes: STATE ahead of FULL.
        String rings = "states 4;may 0 a 1;may 0 a 2;may 0 a 3;";
        joined("without the clash", rings, rings, 1, MayMust.FULL);
        joined("with it", rings + "must 0 c 0;", rings, 1, MayMust.STATE);
    }

    // "comes to a PLAN": that of one or both of those it is made of, too
    private static void joinToItself() {
        String left = "states 2;may 0 a 1;must 1 b 0;";
        String right = "states 2;must 0 a 1;may 1 b 0;";
        String[] want = {"states 2;may 0 a 1;may 1 b 0;", "states 2;must 0 a 1;must 1 b 0;"};
        for (int what = 0; what < 2; what++) {
            for (int to = 0; to < 3; to++) {
                Counted x = new Counted();
                Check.plan(x, 0, left);
                Check.plan(x, 1, right);
                CHECK.due("join to " + to, 2, x.join(0, 1, what, to));
                CHECK.looks("join to " + to, x, 0, to == 0 ? want[what] : left);
                CHECK.looks("join to " + to, x, 1, to == 1 ? want[what] : right);
                CHECK.looks("join to " + to, x, 2, to == 2 ? want[what] : "states 1;");
            }
            Counted x = new Counted();
            Check.plan(x, 4, left);
            CHECK.due("of itself to itself", 2, x.join(4, 4, what, 4));
            CHECK.looks("of itself to itself", x, 4, left);
            CHECK.due("and again", 2, x.join(4, 4, what, 4));
            CHECK.looks("and again", x, 4, left);
        }
    }

    // ---- promises 14 and 15

    private static void value() {
        Counted x = new Counted();
        Check.plan(x, 5, "states 6;may 4 c 0;must 5 c 0;");
        Check.say(x, "<c>1");
        for (int s = 0; s < 6; s++) {
            CHECK.due("value(5, " + s + ")", Math.max(0, s - 3), x.value(5, s));
        }
        CHECK.due("value(5, 6)", MayMust.BAD, x.value(5, 6));
        CHECK.due("value(5, -1)", MayMust.BAD, x.value(5, -1));
    }

    private static void how() {
        Counted x = new Counted();
        Check.plan(x, 5, "states 6;may 4 c 0;must 5 c 0;");
        Check.say(x, "<c>1");
        CHECK.due("not", 4, x.how(5, 0));
        CHECK.due("it depends", 1, x.how(5, 1));
        CHECK.due("so", 1, x.how(5, 2));
        Check.say(x, "1");
        CHECK.due("none", 0, x.how(5, 0));
        CHECK.due("all", 6, x.how(5, 2));
        CHECK.due("how(5, 3)", MayMust.BAD, x.how(5, 3));
        CHECK.due("how(5, -1)", MayMust.BAD, x.how(5, -1));
    }

    // ---- promises 16 to 19

    private static void walkIs(String when, Counted x, int... want) {
        for (int what = 0; what < 4; what++) {
            CHECK.due(when + ": walk(" + what + ")", want[what], x.walk(what));
        }
    }

    // "LETTERS that it had gone"
    private static void begin() {
        Counted x = furnished();
        CHECK.due("begin after two", 2, x.begin(5));
        CHECK.due("begin after none", 0, x.begin(0));
        x.go(1);
        CHECK.due("a letter that is refused is not gone", MayMust.BAD, x.go(3));
        CHECK.due("begin(6)", MayMust.BAD, x.begin(6));
        CHECK.due("begin(-1)", MayMust.BAD, x.begin(-1));
        CHECK.due("begin after one", 1, x.begin(3));
    }

    // "(as it is now; what becomes of it later does not change THE WALK)"
    private static void beginAsItIsNow() {
        for (int change = 0; change < 5; change++) {
            Counted x = new Counted();
            Check.plan(x, 1, "states 3;must 0 a 2;may 2 b 1;");
            Check.plan(x, 2, "states 2;may 0 c 0;must 0 c 1;");
            x.begin(1);
            for (int turn = 0; turn < 2; turn++) {
                switch (change) {
                    case 0 -> x.put(1, 0, 0, 2, 0);
                    case 1 -> Check.plan(x, 1, "states 1;");
                    case 2 -> x.make(2, 1, 1);
                    case 3 -> x.make(1, 2, 1);
                    default -> x.join(2, 2, 0, 1);
                }
                walkIs("change " + change + " at the beginning", x, 1, 1, 1, 0);
            }
            CHECK.due("change " + change + ": a", 1, x.go(0));
            x.put(1, 0, 2, 0, 2);
            walkIs("change " + change + " on the way", x, 4, 2, 0, 1);
            CHECK.due("change " + change + ": b", 1, x.go(1));
            walkIs("change " + change + " at the end", x, 2, 0, 0, 2);
            CHECK.due("change " + change + ": begin anew", 2, x.begin(1));
            CHECK.that("change " + change + ": now with a must by c", x.walk(2) >= 4);
        }
    }

    // "FULL: more than 200"
    private static void goTwoHundred() {
        Counted x = new Counted();
        Check.plan(x, 0, "states 2;may 0 a 1;may 1 a 0;may 1 b 1;");
        x.begin(0);
        for (int k = 1; k <= 200; k++) {
            CHECK.due("letter " + k, 1, x.go(0));
            if (k >= 199) {
                walkIs("after " + k, x, k == 199 ? 2 : 1, k == 199 ? 3 : 1, 0, k);
            }
        }
        CHECK.refuses("letter 201", MayMust.FULL, x, y -> y.go(0));
        CHECK.due("again", MayMust.FULL, x.go(0));
        CHECK.due("STATE ahead of FULL", MayMust.STATE, x.go(1));
        CHECK.due("BAD ahead of FULL", MayMust.BAD, x.go(3));
        CHECK.due("BAD ahead of FULL", MayMust.BAD, x.go(-1));
        walkIs("refused", x, 1, 1, 0, 200);
        CHECK.due("begin", 200, x.begin(0));
        CHECK.due("there is room again", 1, x.go(0));
        walkIs("anew", x, 2, 3, 0, 1);
    }

    // "STATE: it MAY not come"
    private static void goState() {
        Counted x = new Counted();
        Check.plan(x, 0, "states 3;may 0 a 1;may 0 a 2;may 2 b 2;");
        x.begin(0);
        CHECK.refuses("b may not come yet", MayMust.STATE, x, y -> y.go(1));
        CHECK.due("a", 2, x.go(0));
        CHECK.refuses("a may not come any more", MayMust.STATE, x, y -> y.go(0));
        CHECK.due("BAD ahead of STATE", MayMust.BAD, x.go(3));
        CHECK.due("b from one of two", 1, x.go(1));
        CHECK.due("c", MayMust.STATE, x.go(2));
        walkIs("refused letters are not gone", x, 4, 2, 0, 2);
    }

    // "0 STATES of all PLANS, 1 bytes of THE TEXT, 2 of 0 and 1 in THE SAYING."
    private static void count() {
        Counted x = new Counted();
        CHECK.due("the fewest states", 6, x.count(0));
        for (int i = 0; i < 6; i++) {
            Check.plan(x, i, "states 6;");
            CHECK.due("states", 6 + 5 * (i + 1), x.count(0));
        }
        CHECK.due("no bytes", 0, x.count(1));
        Check.tell(x, " ".repeat(300));
        CHECK.due("the most bytes", 300, x.count(1));
        CHECK.due("the fewest of 0 and 1", 1, x.count(2));
        Check.say(x, "0" + "|0".repeat(23));
        CHECK.due("the most of 0 and 1", 24, x.count(2));
        CHECK.due("no bytes then", 0, x.count(1));
        CHECK.due("count(3)", MayMust.BAD, x.count(3));
        CHECK.due("count(-1)", MayMust.BAD, x.count(-1));
    }
}
