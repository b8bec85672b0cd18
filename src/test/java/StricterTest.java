/** Promises 9 to 11: stricter, stays, alike. */
public final class StricterTest {
    private static final Check CHECK = new Check();

    public static void main(String[] args) {
        whyByTheArrow();
        whyByTheMust();
        whyWhereBoth();
        firstLetter();
        laterRounds();
        allAtOnce();
        stays();
        alike();
        refused();
        CHECK.end();
    }

    private static void why(String what, String left, String right, int round, int letter, int side) {
        Counted x = new Counted();
        Check.plan(x, 2, left);
        Check.plan(x, 4, right);
        CHECK.due(what + ": whether", round == 0 ? 1 : 0, x.stricter(2, 4, 0));
        CHECK.due(what + ": round", round, x.stricter(2, 4, 1));
        CHECK.due(what + ": letter", letter, x.stricter(2, 4, 2));
        CHECK.due(what + ": side", side, x.stricter(2, 4, 3));
        CHECK.due(what + ": stays", round, x.stays(2, 0, 4, 0));
    }

    private static void whyByTheArrow() {
        why("both empty", "states 1;", "states 1;", 0, MayMust.NONE, 0);
        why("none for may", "states 1;", "states 1;may 0 c 0;", 0, MayMust.NONE, 0);
        why("must for may", "states 1;must 0 c 0;", "states 1;may 0 c 0;", 0, MayMust.NONE, 0);
        why("may for none", "states 1;may 0 c 0;", "states 1;", 1, 2, 1);
        why("must for none", "states 1;must 0 b 0;", "states 1;may 0 a 0;", 1, 1, 1);
        why("may for may", "states 2;may 0 b 1;", "states 1;may 0 b 0;", 0, MayMust.NONE, 0);
    }

    private static void whyByTheMust() {
        why("none for must", "states 1;", "states 1;must 0 b 0;", 1, 1, 2);
        // Its may has a match, but the must of the other one has none.
        why("may for must", "states 1;may 0 b 0;", "states 1;must 0 b 0;", 1, 1, 2);
        why("must for must", "states 1;must 0 b 0;", "states 1;must 0 b 0;", 0, MayMust.NONE, 0);
    }

    private static void whyWhereBoth() {
        // By a the may goes where the right one can't follow, and the must of the right one has no match.
        why("both by one letter",
            "states 2;may 0 a 1;must 1 b 1;",
            "states 2;must 0 a 1;must 1 c 1;", 1, 0, 2);
        why("both in round 2",
            "states 2;must 0 a 1;must 1 b 1;",
            "states 2;must 0 a 1;must 1 c 1;", 2, 0, 1);
        why("both in round 1, side 1 by a later letter",
            "states 1;may 0 c 0;",
            "states 1;must 0 b 0;", 1, 1, 2);
    }

    private static void firstLetter() {
        why("b ahead of c", "states 1;may 0 c 0;may 0 b 0;", "states 1;", 1, 1, 1);
        // By c in round 1 already, by a only in round 2: c is why.
        why("the letter of that round",
            "states 2;may 0 a 1;may 1 b 1;may 0 c 0;",
            "states 2;may 0 a 1;", 1, 2, 1);
        why("the letter of round 2",
            "states 2;may 0 b 1;may 1 a 1;",
            "states 2;may 0 b 1;", 2, 1, 1);
    }

    private static void laterRounds() {
        // A chain of five that ends in an arrow that the other one has not.
        String chain = "states 6;may 0 a 1;may 1 a 2;may 2 a 3;may 3 a 4;may 4 a 5;";
        why("a chain", chain + "may 5 b 5;", chain, 6, 0, 1);
        why("a chain of musts", chain.replace("may", "must"), chain.replace("may", "must") + "must 5 b 5;", 6, 0, 1);
        why("it stays", chain, chain + "may 5 b 5;", 0, MayMust.NONE, 0);
        // The left one can match each must only by another must.
        why("the must fails later",
            "states 3;may 0 a 1;must 0 a 2;",
            "states 2;must 0 a 1;must 1 b 1;may 0 a 0;", 2, 0, 1);
    }

    private static void allAtOnce() {
        Counted x = new Counted();
        // In a chain downwards each pair leans on one with lesser numbers: if the pairs of one round
        // were taken one by one, more of them would go in round 1.
        Check.plan(x, 0, "states 4;may 3 a 2;may 2 a 1;may 1 a 0;may 0 b 0;");
        Check.plan(x, 1, "states 4;may 3 a 2;may 2 a 1;may 1 a 0;");
        for (int s = 0; s < 4; s++) {
            CHECK.due("stays(0, s, 1, s)", s + 1, x.stays(0, s, 1, s));
            CHECK.due("stays(1, s, 0, s)", 0, x.stays(1, s, 0, s));
        }
        CHECK.due("3 against 0", 1, x.stays(1, 3, 1, 0));
        CHECK.due("3 against 1", 2, x.stays(1, 3, 1, 1));
        CHECK.due("3 against 2", 3, x.stays(1, 3, 1, 2));
        CHECK.due("0 against 3", 0, x.stays(1, 0, 1, 3));
    }

    private static void stays() {
        Counted x = new Counted();
        Check.plan(x, 0, "states 3;must 0 a 1;may 0 b 2;may 1 c 0;must 1 c 2;");
        Check.plan(x, 5, "states 2;must 0 a 1;may 0 b 1;");
        int[][] rounds = {{2, 1}, {1, 1}, {1, 0}};
        for (int s = 0; s < 3; s++) {
            for (int t = 0; t < 2; t++) {
                CHECK.due("stays(0, " + s + ", 5, " + t + ")", rounds[s][t], x.stays(0, s, 5, t));
            }
        }
        x.put(5, 0, 0, 1, 1);
        CHECK.due("after a put", 0, x.stays(0, 2, 5, 0));
    }

    private static void alike() {
        Counted x = new Counted();
        Check.plan(x, 0, "states 2;must 0 a 1;must 1 a 0;");
        Check.plan(x, 1, "states 3;must 0 a 1;must 1 a 2;must 2 a 0;");
        Check.plan(x, 2, "states 2;must 0 a 1;may 1 a 0;");
        CHECK.due("rings", 1, x.alike(0, 1));
        CHECK.due("rings", 1, x.alike(1, 0));
        CHECK.due("itself", 1, x.alike(2, 2));
        CHECK.due("only stricter", 0, x.alike(0, 2));
        CHECK.due("only stricter", 0, x.alike(2, 0));
        CHECK.due("stricter", 1, x.stricter(0, 2, 0));
        CHECK.due("new ones", 1, x.alike(3, 5));
        CHECK.due("neither", 0, x.alike(3, 0));
    }

    private static void refused() {
        Counted x = new Counted();
        Check.plan(x, 0, "states 2;");
        for (int bad : new int[] {-1, 6, Integer.MIN_VALUE, Integer.MAX_VALUE}) {
            CHECK.due("stricter(bad, 0, 0)", MayMust.BAD, x.stricter(bad, 0, 0));
            CHECK.due("stricter(0, bad, 0)", MayMust.BAD, x.stricter(0, bad, 0));
            CHECK.due("stricter(0, 0, bad)", MayMust.BAD, x.stricter(0, 0, bad));
            CHECK.due("stays(bad, ..)", MayMust.BAD, x.stays(bad, 0, 0, 0));
            CHECK.due("stays(0, bad, ..)", MayMust.BAD, x.stays(0, bad, 0, 0));
            CHECK.due("stays(0, 0, bad, 0)", MayMust.BAD, x.stays(0, 0, bad, 0));
            CHECK.due("stays(0, 0, 0, bad)", MayMust.BAD, x.stays(0, 0, 0, bad));
            CHECK.due("alike(bad, 0)", MayMust.BAD, x.alike(bad, 0));
            CHECK.due("alike(0, bad)", MayMust.BAD, x.alike(0, bad));
        }
        CHECK.due("stricter(.., 4)", MayMust.BAD, x.stricter(0, 0, 4));
        CHECK.due("no state 2", MayMust.BAD, x.stays(0, 2, 0, 0));
        CHECK.due("no state 1 there", MayMust.BAD, x.stays(0, 1, 1, 1));
        CHECK.due("state 1 here", 0, x.stays(0, 1, 1, 0));
    }
}
