/** Promises 1 to 8: a new object, type, clear, plan, say, states, arrow, put. */
public final class PlansTest {
    private static final Check CHECK = new Check();

    public static void main(String[] args) {
        newObject();
        type();
        clear();
        plan();
        planFaults();
        say();
        sayFaults();
        states();
        arrow();
        put();
        CHECK.end();
    }

    private static void newObject() {
        Counted x = new Counted();
        for (int i = 0; i < 6; i++) {
            CHECK.looks("new", x, i, "states 1;");
            CHECK.due("new: value", 2, x.value(i, 0));
        }
        CHECK.due("new: count(0)", 6, x.count(0));
        CHECK.due("new: count(1)", 0, x.count(1));
        CHECK.due("new: count(2)", 1, x.count(2));
        CHECK.due("new: walk(0)", 1, x.walk(0));
        CHECK.due("new: walk(1)", 0, x.walk(1));
        CHECK.due("new: walk(2)", 0, x.walk(2));
        CHECK.due("new: walk(3)", 0, x.walk(3));
        CHECK.due("new: go(0)", MayMust.STATE, x.go(0));
    }

    private static void type() {
        Counted x = new Counted();
        CHECK.due("type(0, 0)", MayMust.BAD, x.type(0, 0));
        CHECK.due("type(0, 9)", MayMust.BAD, x.type(0, 9));
        CHECK.due("type(0, -1)", MayMust.BAD, x.type(0, -1));
        CHECK.due("type(0, least)", MayMust.BAD, x.type(0, Integer.MIN_VALUE));
        CHECK.due("type(0, greatest)", MayMust.BAD, x.type(0, Integer.MAX_VALUE));
        CHECK.due("none came", 0, x.count(1));
        // "0|1" behind five bytes that do not count.
        CHECK.due("type(.., 3)", 3, x.type(0x7777777777307C31L, 3));
        CHECK.due("its lowest bytes, the highest first", 2, x.say());
        for (int n = 1; n <= 8; n++) {
            x.clear();
            CHECK.due("type(-1, n)", n, x.type(-1L, n));
        }
        x.clear();
        for (int k = 1; k <= 37; k++) {
            CHECK.due("type(blanks, 8)", 8 * k, x.type(0x2020202020202020L, 8));
        }
        CHECK.due("296 and 5", MayMust.FULL, x.type(0x2020202020L, 5));
        CHECK.due("FULL changes nothing", 296, x.count(1));
        CHECK.due("296 and 4", 300, x.type(0x20202031L, 4));
        CHECK.due("300 and 1", MayMust.FULL, x.type(32, 1));
        CHECK.due("BAD ahead of FULL", MayMust.BAD, x.type(32, 9));
        CHECK.due("300 bytes are read", 1, x.say());
    }

    private static void clear() {
        Counted x = new Counted();
        CHECK.due("clear of none", 0, x.clear());
        x.type(0, 5);
        x.type(0, 8);
        CHECK.due("clear of 13", 13, x.clear());
        CHECK.due("clear again", 0, x.clear());
        CHECK.due("count(1)", 0, x.count(1));
        CHECK.due("type after it", 1, x.type('1', 1));
        CHECK.due("what was is gone", 1, x.say());
    }

    private static void plan() {
        Counted x = new Counted();
        CHECK.due("two items", 2, Check.plan(x, 5, "states 6;may 0 a 5;must 5 c 0;"));
        CHECK.looks("plan", x, 5, "states 6;may 0 a 5;must 5 c 0;");
        CHECK.due("the text is empty then", 0, x.count(1));
        CHECK.due("no items", 0, Check.plan(x, 5, "states 6;"));
        CHECK.looks("plan anew", x, 5, "states 6;");
        CHECK.due("no blanks", 3, Check.plan(x, 0, "states2;must0a1;may1b0;may0c0;"));
        CHECK.looks("no blanks", x, 0, "states 2;must 0 a 1;may 0 c 0;may 1 b 0;");
        CHECK.due("many blanks", 1, Check.plan(x, 0, "  states   3 ;  may  2  b  2  ;  "));
        CHECK.looks("many blanks", x, 0, "states 3;may 2 b 2;");
        CHECK.due("told twice", 4, Check.plan(x, 0, "states 1;may 0 a 0;must 0 a 0;must 0 b 0;may 0 b 0;"));
        CHECK.looks("told twice", x, 0, "states 1;must 0 a 0;must 0 b 0;");
        CHECK.due("may twice", 2, Check.plan(x, 0, "states 1;may 0 a 0;may 0 a 0;"));
        CHECK.looks("may twice", x, 0, "states 1;may 0 a 0;");
        CHECK.due("other plans stay", 6, x.states(5, 0));
        Check.tell(x, "states 2;");
        CHECK.due("plan(-1)", MayMust.BAD, x.plan(-1));
        CHECK.due("plan(6)", MayMust.BAD, x.plan(6));
        CHECK.due("plan(least)", MayMust.BAD, x.plan(Integer.MIN_VALUE));
        CHECK.due("plan(greatest)", MayMust.BAD, x.plan(Integer.MAX_VALUE));
        CHECK.due("BAD leaves the text", 9, x.count(1));
        StringBuilder most = new StringBuilder("states 6;");
        for (int k = 0; k < 41; k++) {
            most.append("may").append(k % 6).append("abc".charAt(k % 3)).append(k / 7).append(';');
        }
        CHECK.due("a text of 296 bytes", 41, Check.plan(x, 1, most.toString()));
    }

    /** An object with a plan, a saying and a walk that a faulty text must not change. */
    private static void fault(boolean saying, String text, int place) {
        Counted x = new Counted();
        Check.plan(x, 0, "states 2;may 0 a 1;must 1 b 0;");
        x.begin(0);
        x.go(0);
        Check.say(x, "0|<b>1");
        Check.tell(x, text);
        CHECK.refuses("fault of '" + text + "'", -10 - place, x, y -> saying ? y.say() : y.plan(0));
        CHECK.due("the text stays: '" + text + "'", -10 - place, saying ? x.say() : x.plan(0));
        CHECK.due("all of it stays: '" + text + "'", text.length(), x.clear());
    }

    private static void planFaults() {
        String[] texts = {
            "", "   ", "state 2;", "may 0 a 0;", "statess 2;", ";", "2", "STATES 2;",
            "states", "states ;", "states 0;", "states 7;", "states 10;", "states 100;", "states 02;", "states 00;",
            "states a;", "states 6", "states 6 ", "states 6 6;", "states 6;;", "states 6;states 6;",
            "states 2;may 2 a 0;", "states 2;may 0 a 2;", "states 2;may 0 d 1;", "states 2;may 0 ab 1;",
            "states 2;may a 0 1;", "states 2;may 0 0;", "states 2;may 0 a;", "states 2;may 0 a 1",
            "states 2;may 0 a 1  ", "states 2;may 0 a", "states 2;may 0", "states 2;may", "states 2;mayb 0 a 1;",
            "states 2;may 0 a 1;x", "states 2;may 0 a 1 must 0 a 1;", "states 2;may 0 may 1;", "states 2;may 00 a 1;",
            "states 2;\tmay 0 a 1;", "states 2;may 0 <a> 1;", "states 2;may 0 a 1;|", "states 2;may 0 a 99;",
            "states 2;may 0 a 123456789012345678901;", "states 2;may 0 a 4294967296;", "states -2;",
            "states 2;Must 0 a 1;", "states 2;may 0 A 1;", "states 2;must 0 a 1;may", "states 2,",
            "states 2;" + (char) 0, "states 2;" + (char) 255, "states 1;may 0 a 1;", "a", "states 2;b",
            "states 2;may 0 a 1; 1", "states 2;may 0 statesa 1;", "states 2 may", "states 2;0 a 1;",
            "xtates 2;", "states 2;nay 0 a 1;", "states 2;bust 0 a 1;", "states 19;", "states 2;may 19 a 0;",
            "states 2;mayz 0 a 1;", "states 2;may` 0 a 1;", "states 2;may{ 0 a 1;", "states 2;may/ 0 a 1;", "states 2:",
        };
        int[] places = {
            0, 3, 0, 0, 0, 0, 0, 0,
            6, 7, 7, 7, 7, 7, 7, 7,
            7, 8, 9, 9, 9, 9,
            13, 17, 15, 15,
            13, 15, 16, 18,
            20, 16, 14, 12, 9,
            19, 19, 15, 13,
            9, 15, 19, 17,
            17, 17, 7,
            9, 15, 23, 8,
            9, 9, 17, 0, 9,
            20, 15, 9, 9,
            0, 9, 9, 7, 13,
            9, 12, 12, 12, 8,
        };
        CHECK.due("rows", texts.length, places.length);
        for (int k = 0; k < texts.length; k++) {
            fault(false, texts[k], places[k]);
        }
    }

    private static void say() {
        Counted x = new Counted();
        CHECK.due("0", 1, Check.say(x, "0"));
        CHECK.due("count(2)", 1, x.count(2));
        CHECK.due("the text is empty then", 0, x.count(1));
        CHECK.due("0 counts", 0, x.value(0, 0));
        CHECK.due("0|1&0|!1", 4, Check.say(x, "0|1&0|!1"));
        CHECK.due("count(2)", 4, x.count(2));
        CHECK.due("blanks", 3, Check.say(x, "  ( 0 | ! < a > 1 ) & [ c ] 0  "));
        StringBuilder most = new StringBuilder("1");
        for (int k = 1; k < 24; k++) {
            most.append(k % 2 == 0 ? "&1" : "|0");
        }
        CHECK.due("24 of 0 and 1", 24, Check.say(x, most.toString()));
        CHECK.due("count(2)", 24, x.count(2));
        fault(true, most + "|1", 48);
        fault(true, most + "|", 48);
        fault(true, most + "|!1", 49);
        CHECK.due("ten !", 1, Check.say(x, "!!!!!!!!!!1"));
        CHECK.due("ten (", 1, Check.say(x, "((((((((((1))))))))))"));
        CHECK.due("ten <", 1, Check.say(x, "<a><a><a><a><a><a><a><a><a><a>1"));
        CHECK.due("ten [", 1, Check.say(x, "[a][a][a][a][a][a][a][a][a][a]1"));
        CHECK.due("mixed", 1, Check.say(x, "!(<a>[b]!(<c>[a]!(1)))"));
        String ten = "((((((((((1))))))))))|";
        CHECK.due("300 tokens", 14, Check.say(x, ten.repeat(13) + "!((((((1))))))"));
        CHECK.due("they are closed again", 4, Check.say(x, "!!!!!!!!!!1|!!!!!!!!!!1&((((((((((1))))))))))|<a>1"));
    }

    private static void sayFaults() {
        String[] texts = {
            "", "  ", "2", "10", "01", "99", "100", "a", "|", "1|", "1&", "1 1", "1)", "()", "(1", "(1 ", "(1))", ")",
            "!", "!!", "<", "<a", "<a>", "<1>1", "<a]1", "[a>1", "[a]", "<>1", "<d>1", "<ab>1", "<a b>1", "<may>1",
            "1||1", "1&|1", "1!1", "1<a>1", "1(1)", "1;", "may", "states 1;", "1\t", "1 $", "1 x", "1 1 $", "$ 1",
            "!!!!!!!!!!!1", "(((((((((((1", "!!!!!!!!!!<a>1", "!!!!!!!!!![a]1", "!!!!!!!!!!(1)",
            "<a><a><a><a><a><a><a><a><a><a>!1", "!!!!!!!!!!a", "!!!!!!!!!!", "0|(0|0|(0)", "(1]", "[a[", "1 " + (char) 128,
            "[a][a][a][a][a][a][a][a][a][a][a]1", "<a><a><a><a><a><a><a><a><a><a><a>1", "!([a]!([a]!([a]!(1))))",
            "!".repeat(300), "1".repeat(300), ";".repeat(300), "1" + " ".repeat(298) + "|",
            "11", "1a", "a1", "0 0", "!(1|0)0", "(1|0)&", "(1|)",
        };
        int[] places = {
            0, 2, 0, 0, 0, 0, 0, 0, 0, 2, 2, 2, 1, 1, 2, 3, 3, 0,
            1, 2, 1, 2, 3, 1, 2, 2, 3, 1, 1, 1, 3, 1,
            2, 2, 1, 1, 1, 1, 0, 0, 1, 2, 2, 2, 0,
            10, 10, 10, 10, 10,
            30, 10, 10, 10, 2, 2, 2,
            30, 30, 16,
            10, 0, 0, 300,
            0, 1, 0, 2, 6, 6, 3,
        };
        CHECK.due("rows", texts.length, places.length);
        for (int k = 0; k < texts.length; k++) {
            fault(true, texts[k], places[k]);
        }
    }

    private static void states() {
        Counted x = new Counted();
        Check.plan(x, 3, "states 4;must 0 a 1;must 0 a 2;may 3 b 3;must 1 c 0;may 0 c 0;");
        CHECK.due("states(3, 0)", 4, x.states(3, 0));
        CHECK.due("states(3, 1)", 3, x.states(3, 1));
        CHECK.due("states(3, 2)", 2, x.states(3, 2));
        CHECK.due("states(2, 0)", 1, x.states(2, 0));
        CHECK.due("states(2, 1)", 0, x.states(2, 1));
        CHECK.due("states(2, 2)", 0, x.states(2, 2));
        for (int bad : new int[] {-1, 3, Integer.MIN_VALUE, Integer.MAX_VALUE}) {
            CHECK.due("states(3, bad)", MayMust.BAD, x.states(3, bad));
        }
        for (int bad : new int[] {-1, 6, Integer.MIN_VALUE, Integer.MAX_VALUE}) {
            CHECK.due("states(bad, 0)", MayMust.BAD, x.states(bad, 0));
        }
        StringBuilder all = new StringBuilder("states 6;");
        for (int k = 0; k < 36; k++) {
            all.append("must").append(k / 6).append('b').append(k % 6).append(';');
        }
        CHECK.due("36 items would be 297 bytes", 36, Check.plan(x, 0, all.toString()));
        CHECK.due("36 musts", 36, x.states(0, 1));
    }

    private static void arrow() {
        Counted x = new Counted();
        Check.plan(x, 1, "states 3;may 0 a 2;must 2 c 1;");
        CHECK.due("may", 1, x.arrow(1, 0, 0, 2));
        CHECK.due("must", 2, x.arrow(1, 2, 2, 1));
        CHECK.due("none", 0, x.arrow(1, 2, 0, 0));
        CHECK.due("none back", 0, x.arrow(1, 1, 2, 2));
        int[][] bad = {{-1, 0, 0, 0}, {6, 0, 0, 0}, {1, -1, 0, 0}, {1, 3, 0, 0}, {1, 0, -1, 0}, {1, 0, 3, 0},
            {1, 0, 0, -1}, {1, 0, 0, 3}, {0, 1, 0, 0}, {0, 0, 0, 1}, {Integer.MAX_VALUE, 0, 0, 0},
            {1, Integer.MIN_VALUE, 0, 0}, {1, 0, Integer.MAX_VALUE, 0}, {1, 0, 0, Integer.MIN_VALUE}};
        for (int[] b : bad) {
            CHECK.due("arrow of none", MayMust.BAD, x.arrow(b[0], b[1], b[2], b[3]));
            CHECK.due("put of none", MayMust.BAD, x.put(b[0], b[1], b[2], b[3], 1));
        }
        CHECK.looks("put of none", x, 1, "states 3;may 0 a 2;must 2 c 1;");
        CHECK.looks("put of none", x, 0, "states 1;");
    }

    private static void put() {
        Counted x = new Counted();
        Check.plan(x, 2, "states 2;");
        CHECK.due("0 to 2", 0, x.put(2, 1, 2, 0, 2));
        CHECK.due("2 to 1", 2, x.put(2, 1, 2, 0, 1));
        CHECK.looks("put", x, 2, "states 2;may 1 c 0;");
        CHECK.due("1 to 2", 1, x.put(2, 1, 2, 0, 2));
        CHECK.looks("put", x, 2, "states 2;must 1 c 0;");
        CHECK.due("2 to 0", 2, x.put(2, 1, 2, 0, 0));
        CHECK.looks("put", x, 2, "states 2;");
        CHECK.due("0 to 0", 0, x.put(2, 1, 2, 0, 0));
        CHECK.due("0 to 1", 0, x.put(2, 0, 0, 1, 1));
        CHECK.due("1 to 1", 1, x.put(2, 0, 0, 1, 1));
        CHECK.due("v = -1", MayMust.BAD, x.put(2, 0, 0, 1, -1));
        CHECK.due("v = 3", MayMust.BAD, x.put(2, 0, 0, 1, 3));
        CHECK.due("v greatest", MayMust.BAD, x.put(2, 0, 0, 1, Integer.MAX_VALUE));
        CHECK.looks("BAD", x, 2, "states 2;may 0 a 1;");
    }
}
