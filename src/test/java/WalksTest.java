/** Promises 16 to 19: begin, go, walk, count. */
public final class WalksTest {
    private static final Check CHECK = new Check();

    public static void main(String[] args) {
        walk();
        mustInEach();
        asItWas();
        twoHundred();
        refused();
        count();
        CHECK.end();
    }

    private static void at(Counted x, String when, int states, int may, int must, int gone) {
        CHECK.due(when + ": walk(0)", states, x.walk(0));
        CHECK.due(when + ": walk(1)", may, x.walk(1));
        CHECK.due(when + ": walk(2)", must, x.walk(2));
        CHECK.due(when + ": walk(3)", gone, x.walk(3));
    }

    private static void walk() {
        Counted x = new Counted();
        Check.plan(x, 1, "states 4;may 0 a 1;must 0 a 2;may 0 c 0;must 1 b 3;must 2 b 3;may 2 a 2;may 3 a 0;must 3 a 3;");
        CHECK.due("begin(1)", 0, x.begin(1));
        at(x, "at first", 1, 5, 1, 0);
        CHECK.due("c", 1, x.go(2));
        at(x, "c", 1, 5, 1, 1);
        CHECK.due("a", 2, x.go(0));
        at(x, "ca", 6, 3, 2, 2);
        CHECK.due("c may not come", MayMust.STATE, x.go(2));
        at(x, "refused", 6, 3, 2, 2);
        CHECK.due("b", 1, x.go(1));
        at(x, "cab", 8, 1, 1, 3);
        CHECK.due("a", 2, x.go(0));
        at(x, "caba", 9, 5, 1, 4);
        CHECK.due("a", 4, x.go(0));
        at(x, "cabaa", 15, 7, 0, 5);
        CHECK.due("begin anew tells what it had gone", 5, x.begin(1));
        at(x, "anew", 1, 5, 1, 0);
        CHECK.due("and none now", 0, x.begin(0));
        at(x, "in a new plan", 1, 0, 0, 0);
    }

    private static void mustInEach() {
        Counted x = new Counted();
        Check.plan(x, 0, "states 3;may 0 a 1;may 0 a 2;must 1 b 1;may 2 b 2;must 1 c 1;must 2 c 0;may 1 a 1;");
        x.begin(0);
        CHECK.due("a", 2, x.go(0));
        at(x, "a", 6, 7, 4, 1);
        CHECK.due("c", 2, x.go(2));
        at(x, "ac", 3, 7, 0, 2);
    }

    private static void asItWas() {
        Counted x = new Counted();
        Check.plan(x, 0, "states 2;may 0 a 1;must 1 b 0;");
        x.begin(0);
        x.put(0, 0, 0, 1, 0);
        x.put(0, 0, 2, 1, 2);
        at(x, "after puts", 1, 1, 0, 0);
        CHECK.due("a", 1, x.go(0));
        Check.plan(x, 0, "states 1;");
        at(x, "after a new plan", 2, 2, 2, 1);
        x.make(3, 0, 0);
        CHECK.due("b", 1, x.go(1));
        CHECK.due("begin in the plan as it is now", 2, x.begin(0));
        at(x, "as it is now", 1, 0, 0, 0);
    }

    private static void twoHundred() {
        Counted x = new Counted();
        Check.plan(x, 0, "states 1;may 0 a 0;");
        x.begin(0);
        for (int k = 1; k <= 200; k++) {
            CHECK.due("letter " + k, 1, x.go(0));
        }
        CHECK.due("walk(3)", 200, x.walk(3));
        CHECK.due("letter 201", MayMust.FULL, x.go(0));
        CHECK.due("STATE ahead of FULL", MayMust.STATE, x.go(1));
        CHECK.due("BAD ahead of all", MayMust.BAD, x.go(3));
        CHECK.due("FULL changes nothing", 200, x.walk(3));
        CHECK.due("begin", 200, x.begin(0));
        CHECK.due("then there is room", 1, x.go(0));
    }

    private static void refused() {
        Counted x = new Counted();
        Check.plan(x, 0, "states 2;may 0 a 1;must 1 b 0;");
        x.begin(0);
        x.go(0);
        for (int bad : new int[] {-1, 6, Integer.MIN_VALUE, Integer.MAX_VALUE}) {
            CHECK.due("begin(bad)", MayMust.BAD, x.begin(bad));
            CHECK.due("go(bad)", MayMust.BAD, x.go(bad));
            CHECK.due("walk(bad)", MayMust.BAD, x.walk(bad));
            CHECK.due("count(bad)", MayMust.BAD, x.count(bad));
        }
        CHECK.due("go(3)", MayMust.BAD, x.go(3));
        CHECK.due("walk(4)", MayMust.BAD, x.walk(4));
        CHECK.due("count(3)", MayMust.BAD, x.count(3));
        at(x, "BAD changes nothing", 2, 2, 2, 1);
    }

    private static void count() {
        Counted x = new Counted();
        CHECK.due("count(0)", 6, x.count(0));
        Check.plan(x, 0, "states 6;");
        CHECK.due("count(0)", 11, x.count(0));
        Check.plan(x, 5, "states 4;");
        CHECK.due("count(0)", 14, x.count(0));
        for (int i = 0; i < 6; i++) {
            Check.plan(x, i, "states 6;");
        }
        CHECK.due("count(0)", 36, x.count(0));
        x.type(0, 7);
        CHECK.due("count(1)", 7, x.count(1));
        Check.say(x, "1|0|1");
        CHECK.due("count(1)", 0, x.count(1));
        CHECK.due("count(2)", 3, x.count(2));
    }
}
