/** Promises 14 and 15: value, how. */
public final class SayingsTest {
    private static final Check CHECK = new Check();
    // In state 0: by a may to 1, by b must to 1, by c nothing. In 1: nothing but a must by c to 2.
    // In 2: by a may to 0 and must to 1, by b may to 1 and may to 2.
    private static final String PLAN =
        "states 3;may 0 a 1;must 0 b 1;must 1 c 2;may 2 a 0;must 2 a 1;may 2 b 1;may 2 b 2;";

    public static void main(String[] args) {
        bits();
        arrows();
        binding();
        atMost();
        later();
        refused();
        CHECK.end();
    }

    private static void values(String saying, int... want) {
        Counted x = new Counted();
        Check.plan(x, 3, PLAN);
        CHECK.that("'" + saying + "' is read", Check.say(x, saying) > 0);
        int[] found = new int[3];
        for (int s = 0; s < 3; s++) {
            CHECK.due("'" + saying + "' at " + s, want[s], x.value(3, s));
            found[want[s]]++;
        }
        for (int v = 0; v < 3; v++) {
            CHECK.due("'" + saying + "', how many " + v, found[v], x.how(3, v));
        }
    }

    private static void bits() {
        values("1", 2, 2, 2);
        values("0", 0, 0, 0);
        values("!1", 0, 0, 0);
        values("!0", 2, 2, 2);
        values("!!0", 0, 0, 0);
        values("0|1", 2, 2, 2);
        values("0|0", 0, 0, 0);
        values("1&0", 0, 0, 0);
        values("1&1", 2, 2, 2);
        values("((0))", 0, 0, 0);
    }

    private static void arrows() {
        values("<a>1", 1, 0, 2);
        values("<b>1", 2, 0, 1);
        values("<c>1", 0, 2, 0);
        values("<a>0", 0, 0, 0);
        values("[a]0", 1, 2, 0);
        values("[b]0", 0, 2, 1);
        values("[c]0", 2, 0, 2);
        values("[a]1", 2, 2, 2);
        values("!<a>1", 1, 2, 0);
        // <c>1 is 0, 2, 0 at the three states.
        values("<a><c>1", 1, 0, 2);
        values("[a]<c>1", 2, 2, 1);
        values("<b><c>1", 2, 0, 1);
        values("[b]<c>1", 2, 2, 1);
        // <b>1 is 2, 0, 1.
        values("<b><b>1", 0, 0, 1);
        values("[b]<b>1", 0, 2, 1);
        values("<a><b>1", 0, 0, 1);
        values("[a]<b>1", 1, 2, 0);
        values("<c><b>1", 0, 1, 0);
        values("[c]<b>1", 2, 1, 2);
    }

    private static void binding() {
        values("1|0&0", 2, 2, 2);
        values("(1|0)&0", 0, 0, 0);
        values("0&0|1", 2, 2, 2);
        values("0&(0|1)", 0, 0, 0);
        // ! and the arrows take the next unit only.
        values("!1|1", 2, 2, 2);
        values("!(1|1)", 0, 0, 0);
        values("!0&0", 0, 0, 0);
        values("<a>1|1", 2, 2, 2);
        values("<a>(0|1)&1", 1, 0, 2);
        values("[a]0|<a>1", 1, 2, 2);
        values("[a]0&<a>1", 1, 0, 0);
        values("![a]!1|<c>1", 1, 2, 2);
        values("<a>1&<b>1|<c>1", 1, 2, 1);
        values("<a>1&(<b>1|<c>1)", 1, 0, 1);
        values("!<a>!<a>1", 1, 2, 0);
    }

    private static void atMost() {
        StringBuilder b = new StringBuilder("0");
        for (int k = 1; k < 24; k++) {
            b.append("|0");
        }
        values(b.toString(), 0, 0, 0);
        values(b.substring(0, b.length() - 1) + "1", 2, 2, 2);
        values("!!!!!!!!!!1", 2, 2, 2);
        values("!!!!!!!!!(1)", 0, 0, 0);
        // All 24 wait for one another until the last one has come.
        StringBuilder nested = new StringBuilder();
        for (int k = 0; k < 10; k++) {
            nested.append("1|1&(");
        }
        nested.append("0|0&0|1))))))))))");
        values(nested.toString(), 2, 2, 2);
        values(nested.toString().replace("1|1&", "0|1&"), 2, 2, 2);
        values(nested.toString().replace("1|1&", "0|1&").replace("0|0&0|1", "0|1&0|0"), 0, 0, 0);
    }

    private static void later() {
        Counted x = new Counted();
        Check.plan(x, 0, PLAN);
        Check.say(x, "<a>1");
        CHECK.due("how(0, 1)", 1, x.how(0, 1));
        x.put(0, 1, 0, 1, 1);
        CHECK.due("as the plan is now", 2, x.how(0, 1));
        Check.say(x, "<a>");
        CHECK.due("a faulty text changes nothing", 2, x.how(0, 1));
        CHECK.due("count(2)", 1, x.count(2));
        CHECK.due("another plan", 0, x.value(1, 0));
        CHECK.due("how(1, 0)", 1, x.how(1, 0));
    }

    private static void refused() {
        Counted x = new Counted();
        Check.plan(x, 0, PLAN);
        for (int bad : new int[] {-1, 6, Integer.MIN_VALUE, Integer.MAX_VALUE}) {
            CHECK.due("value(bad, 0)", MayMust.BAD, x.value(bad, 0));
            CHECK.due("value(0, bad)", MayMust.BAD, x.value(0, bad));
            CHECK.due("how(bad, 0)", MayMust.BAD, x.how(bad, 0));
            CHECK.due("how(0, bad)", MayMust.BAD, x.how(0, bad));
        }
        CHECK.due("value(0, 3)", MayMust.BAD, x.value(0, 3));
        CHECK.due("value(1, 1)", MayMust.BAD, x.value(1, 1));
        CHECK.due("how(0, 3)", MayMust.BAD, x.how(0, 3));
    }
}
