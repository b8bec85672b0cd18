/** Promises 12 and 13: make, join. */
public final class MadeTest {
    private static final Check CHECK = new Check();

    public static void main(String[] args) {
        leastAndGreatest();
        small();
        makeRefused();
        sideBySide();
        bothAtOnce();
        clashes();
        joinRefused();
        CHECK.end();
    }

    private static void leastAndGreatest() {
        Counted x = new Counted();
        String text = "states 4;may 0 a 1;must 0 a 2;may 1 b 1;must 3 c 0;";
        Check.plan(x, 0, text);
        CHECK.due("least", 4, x.make(0, 0, 3));
        CHECK.looks("least", x, 3, "states 4;must 0 a 2;must 3 c 0;");
        CHECK.due("greatest", 4, x.make(0, 1, 4));
        CHECK.looks("greatest", x, 4, "states 4;must 0 a 1;must 0 a 2;must 1 b 1;must 3 c 0;");
        CHECK.looks("made of it", x, 0, text);
        CHECK.due("to the same", 4, x.make(0, 1, 0));
        CHECK.looks("to the same", x, 0, "states 4;must 0 a 1;must 0 a 2;must 1 b 1;must 3 c 0;");
        CHECK.due("of a new one", 1, x.make(5, 0, 0));
        CHECK.looks("of a new one", x, 0, "states 1;");
    }

    private static void small(String what, String text, String want) {
        Counted x = new Counted();
        Check.plan(x, 1, text);
        int size = want.charAt(7) - '0';
        CHECK.due(what, size, x.make(1, 2, 2));
        CHECK.looks(what, x, 2, want);
        CHECK.looks(what + ", made of it", x, 1, text);
        CHECK.due(what + ": alike", 1, x.alike(1, 2));
        CHECK.due(what + ": to the same", size, x.make(1, 2, 1));
        CHECK.looks(what + ", to the same", x, 1, want);
    }

    private static void small() {
        small("one state", "states 1;", "states 1;");
        small("a ring", "states 3;must 0 a 1;must 1 a 2;must 2 a 0;", "states 1;must 0 a 0;");
        small("two are one", "states 4;may 0 a 1;must 0 a 2;must 1 b 3;must 2 b 3;may 3 a 0;",
            "states 3;must 0 a 1;must 1 b 2;may 2 a 0;");
        small("may to one, must to another that is none",
            "states 3;may 0 a 1;must 0 a 2;may 1 b 1;", "states 3;may 0 a 1;must 0 a 2;may 1 b 1;");
        small("none is come to", "states 5;must 1 a 2;may 3 b 4;must 4 c 0;", "states 1;");
        small("come to by may", "states 3;may 0 b 2;must 2 c 2;", "states 2;may 0 b 1;must 1 c 1;");
        small("numbered in order", "states 6;must 0 a 5;must 1 a 1;may 3 c 1;must 5 b 3;",
            "states 4;must 0 a 3;must 1 a 1;may 2 c 1;must 3 b 2;");
        // 1 and 2 are one, though just one of them may go to 4 too, which is stricter than 3: the arrows
        // of 1, the least, are those that count.
        small("more arrows of the least state",
            "states 5;may 0 a 1;may 0 a 2;may 1 a 3;may 1 a 4;may 2 a 3;may 3 b 3;",
            "states 4;may 0 a 1;may 1 a 2;may 1 a 3;may 2 b 2;");
        small("fewer arrows of the least state",
            "states 5;may 0 a 1;may 0 a 2;may 1 a 3;may 2 a 3;may 2 a 4;may 3 b 3;",
            "states 3;may 0 a 1;may 1 a 2;may 2 b 2;");
        small("a must beside it",
            "states 5;must 0 a 2;must 1 a 3;may 1 a 4;must 2 a 3;may 3 b 3;",
            "states 4;must 0 a 1;must 1 a 2;may 1 a 3;may 2 b 2;");
    }

    private static void makeRefused() {
        Counted x = new Counted();
        Check.plan(x, 0, "states 2;may 0 a 1;");
        for (int bad : new int[] {-1, 6, Integer.MIN_VALUE, Integer.MAX_VALUE}) {
            CHECK.due("make(bad, 0, 1)", MayMust.BAD, x.make(bad, 0, 1));
            CHECK.due("make(0, bad, 1)", MayMust.BAD, x.make(0, bad, 1));
            CHECK.due("make(0, 0, bad)", MayMust.BAD, x.make(0, 0, bad));
        }
        CHECK.due("make(0, 3, 1)", MayMust.BAD, x.make(0, 3, 1));
        CHECK.looks("BAD", x, 1, "states 1;");
    }

    private static void join(String what, String left, String right, int mode, String want) {
        Counted x = new Counted();
        Check.plan(x, 0, left);
        Check.plan(x, 1, right);
        CHECK.due(what, want.charAt(7) - '0', x.join(0, 1, mode, 5));
        CHECK.looks(what, x, 5, want);
        CHECK.looks(what, x, 0, left);
        CHECK.looks(what, x, 1, right);
        x.join(0, 1, mode, 1);
        CHECK.looks(what + ", to the second", x, 1, want);
        Check.plan(x, 1, right);
        x.join(0, 1, mode, 0);
        CHECK.looks(what + ", to the first", x, 0, want);
    }

    private static void refuses(String what, String left, String right, int mode, int want) {
        Counted x = new Counted();
        Check.plan(x, 0, left);
        Check.plan(x, 1, right);
        Check.plan(x, 2, "states 3;may 1 b 2;");
        CHECK.due(what, want, x.join(0, 1, mode, 2));
        CHECK.looks(what, x, 2, "states 3;may 1 b 2;");
        CHECK.due(what + ", to the first", want, x.join(0, 1, mode, 0));
        CHECK.looks(what, x, 0, left);
    }

    private static void sideBySide() {
        join("the lesser one", "states 1;may 0 a 0;must 0 b 0;must 0 c 0;", "states 1;must 0 a 0;must 0 b 0;", 0,
            "states 1;may 0 a 0;must 0 b 0;");
        join("nothing in common", "states 2;must 0 a 1;", "states 2;must 0 b 1;", 0, "states 1;");
        // Come to from 0,0: by a 1,1 then 1,2; by b 0,1 ... in the order of letters, then s2, then t2.
        join("the order of pairs", "states 3;may 0 a 1;must 0 a 2;must 0 b 0;",
            "states 3;must 0 a 1;must 0 a 2;must 0 b 1;", 0,
            "states 6;may 0 a 1;may 0 a 2;must 0 a 3;must 0 a 4;must 0 b 5;");
        // The second row of pairs is numbered behind all of the first one's.
        join("pair by pair", "states 4;must 0 a 1;must 0 b 2;may 1 c 3;must 2 a 3;",
            "states 2;must 0 a 0;must 0 b 1;must 0 c 0;must 1 a 0;", 0,
            "states 4;must 0 a 1;must 0 b 2;may 1 c 3;must 2 a 3;");
        join("rings of 2 and 3", "states 2;must 0 a 1;must 1 a 0;", "states 3;must 0 a 1;must 1 a 2;must 2 a 0;", 0,
            "states 6;must 0 a 1;must 1 a 2;must 2 a 3;must 3 a 4;must 4 a 5;must 5 a 0;");
        refuses("rings of 3 and 4", "states 3;must 0 a 1;must 1 a 2;must 2 a 0;",
            "states 4;may 0 a 1;may 1 a 2;may 2 a 3;may 3 a 0;", 0, MayMust.FULL);
        String four = "states 3;may 0 a 1;may 0 a 2;";
        refuses("seven", four + "may 0 b 0;may 0 c 0;", "states 4;may 0 a 1;may 0 a 2;may 0 b 1;may 0 c 3;", 0, MayMust.FULL);
        join("six", four + "may 0 b 0;may 0 c 0;", "states 3;may 0 a 1;may 0 a 2;may 0 b 1;may 0 c 1;", 0,
            "states 6;may 0 a 1;may 0 a 2;may 0 a 3;may 0 a 4;may 0 b 5;may 0 c 5;");
    }

    private static void bothAtOnce() {
        join("the greater one", "states 1;may 0 a 0;must 0 b 0;may 0 c 0;",
            "states 1;must 0 a 0;may 0 b 0;may 0 c 0;", 1,
            "states 1;must 0 a 0;must 0 b 0;may 0 c 0;");
        join("if there are both", "states 1;may 0 a 0;", "states 1;may 0 b 0;", 1, "states 1;");
        join("what clashes is left out", "states 3;may 0 a 1;may 0 a 2;must 1 b 1;", "states 2;may 0 a 1;", 1,
            "states 2;may 0 a 1;");
        // 1,1 clashes; 0,0 can do its must by 1,2.
        join("another pair stands", "states 2;must 0 a 1;must 1 b 1;", "states 3;may 0 a 1;may 0 a 2;may 2 b 2;", 1,
            "states 2;must 0 a 1;must 1 b 1;");
        // Come to only through a pair that clashes: not there, and not counted.
        join("behind a clash", "states 3;may 0 a 1;must 1 b 2;must 1 c 2;", "states 3;may 0 a 1;may 1 b 2;", 1, "states 1;");
    }

    private static void clashes() {
        refuses("must against none", "states 1;must 0 a 0;", "states 1;", 1, MayMust.STATE);
        refuses("none against must", "states 1;", "states 1;must 0 c 0;", 1, MayMust.STATE);
        refuses("must against another letter", "states 1;must 0 a 0;", "states 1;must 0 b 0;", 1, MayMust.STATE);
        // The clash at the end comes back to the first pair, step by step.
        refuses("again and again", "states 4;must 0 a 1;must 1 a 2;must 2 a 3;must 3 b 3;",
            "states 4;may 0 a 1;may 1 a 2;may 2 a 3;", 1, MayMust.STATE);
        refuses("the second one's must", "states 2;may 0 a 1;", "states 2;must 0 a 1;must 1 b 1;", 1, MayMust.STATE);
        // One of two targets of musts has a partner that stands, the other one has none.
        refuses("each must counts", "states 3;must 0 a 1;must 0 a 2;must 2 b 2;", "states 2;may 0 a 1;", 1, MayMust.STATE);
        // The clash is told ahead of FULL, though there are more than six pairs.
        refuses("STATE ahead of FULL", "states 4;may 0 a 1;may 0 a 2;may 0 a 3;must 0 b 0;",
            "states 4;may 0 a 1;may 0 a 2;may 0 a 3;", 1, MayMust.STATE);
        refuses("more than six", "states 4;may 0 a 1;may 0 a 2;may 0 a 3;",
            "states 4;may 0 a 1;may 0 a 2;may 0 a 3;", 1, MayMust.FULL);
        // Nine pairs, of which four clash: six stand.
        join("six without what clashes", "states 4;may 0 a 1;may 0 a 2;may 0 a 3;must 1 b 1;must 2 b 2;",
            "states 4;may 0 a 1;may 0 a 2;may 0 a 3;may 3 b 3;", 1,
            "states 6;may 0 a 1;may 0 a 2;may 0 a 3;may 0 a 4;may 0 a 5;must 1 b 1;must 2 b 2;");
    }

    private static void joinRefused() {
        Counted x = new Counted();
        for (int bad : new int[] {-1, 6, Integer.MIN_VALUE, Integer.MAX_VALUE}) {
            CHECK.due("join(bad, ..)", MayMust.BAD, x.join(bad, 0, 0, 0));
            CHECK.due("join(0, bad, ..)", MayMust.BAD, x.join(0, bad, 0, 0));
            CHECK.due("join(.., bad, 0)", MayMust.BAD, x.join(0, 0, bad, 0));
            CHECK.due("join(.., bad)", MayMust.BAD, x.join(0, 0, 0, bad));
        }
        CHECK.due("join(.., 2, 0)", MayMust.BAD, x.join(0, 0, 2, 0));
        x.put(0, 0, 0, 0, 2);
        CHECK.due("BAD ahead of STATE", MayMust.BAD, x.join(0, 1, 1, 6));
        CHECK.due("STATE", MayMust.STATE, x.join(0, 1, 1, 5));
    }
}
