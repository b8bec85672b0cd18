/**
 * The part "Terms" of the document, sentence by sentence: each one that names a bound, with the last
 * that is allowed and the first that is not. A comment ahead of a test is the sentence that it holds.
 */
public final class TermsBoundsTest {
    private static final Check CHECK = new Check();
    private static final String SIGNS = "!(<[";
    // State 0 has no b, 1 has one that may be, 2 one that must: "<b>1" has the values 0, 1, 2 there.
    private static final String ZERO_ONE_TWO = "states 4;may 1 b 1;must 2 b 2;";

    public static void main(String[] args) {
        plansAndStates();
        letters();
        arrows();
        threeHundredBytes();
        blanksBetween();
        oneToSixStates();
        items();
        toldTwice();
        twentyFour();
        tenOpen();
        atFirstOne();
        tokensThatCannotStand();
        bytesThatBeginNone();
        wordsThatAreNone();
        numbers();
        endsTooEarly();
        rounds();
        lastRound();
        why();
        whyIsOfThisCall();
        alike();
        leastAndGreatest();
        small();
        sideBySide();
        bothAtOnce();
        firstPairClashes();
        choices();
        valuesOfSome();
        valuesOfEach();
        valuesAtManyStates();
        walkBegins();
        lettersOfTheWalk();
        firstOfRefusals();
        calls512();
        CHECK.end();
    }

    // ---- what the tests share

    private static Counted with(String... plans) {
        Counted x = new Counted();
        for (int i = 0; i < plans.length; i++) {
            CHECK.that("'" + plans[i] + "' is read", Check.plan(x, i, plans[i]) >= 0);
        }
        return x;
    }

    private static void reads(String text, int items) {
        Counted x = new Counted();
        Check.tell(x, text);
        CHECK.due("all of '" + text + "' is told", text.length(), x.count(1));
        CHECK.due("plan of '" + text + "'", items, x.plan(0));
        CHECK.due("empty after '" + text + "'", 0, x.count(1));
    }

    private static void says(String text, int bits) {
        Counted x = new Counted();
        Check.tell(x, text);
        CHECK.due("all of '" + text + "' is told", text.length(), x.count(1));
        CHECK.due("saying '" + text + "'", bits, x.say());
        CHECK.due("empty after '" + text + "'", 0, x.count(1));
        CHECK.due("of 0 and 1 in '" + text + "'", bits, x.count(2));
    }

    /** The text has its fault there, twice: neither it nor anything else is changed by the first refusal. */
    private static void planFault(String text, int place) {
        Counted x = with("states 2;may 0 a 1;must 1 b 0;");
        x.begin(0);
        x.go(0);
        Check.tell(x, text);
        CHECK.due("all of '" + text + "' is told", text.length(), x.count(1));
        CHECK.refuses("plan of '" + text + "'", -10 - place, x, y -> y.plan(0));
        CHECK.due("plan of '" + text + "' again", -10 - place, x.plan(5));
        CHECK.due("clear after '" + text + "'", text.length(), x.clear());
    }

    private static void sayFault(String text, int place) {
        Counted x = with("states 2;may 0 a 1;must 1 b 0;");
        Check.say(x, "0|<b>1&1");
        Check.tell(x, text);
        CHECK.due("all of '" + text + "' is told", text.length(), x.count(1));
        CHECK.refuses("saying '" + text + "'", -10 - place, x, Counted::say);
        CHECK.due("saying '" + text + "' again", -10 - place, x.say());
        CHECK.due("clear after '" + text + "'", text.length(), x.clear());
    }

    private static int[] row(int... numbers) {
        return numbers;
    }

    // ---- 1 PLANS

    // "PLANS 0 .. 5 have STATES 0 .. (1 .. 6; 1 at first) and begin at STATE 0"
    private static void plansAndStates() {
        Counted fresh = new Counted();
        for (int i = 0; i <= 5; i++) {
            CHECK.due("1 at first", 1, fresh.states(i, 0));
        }
        CHECK.due("no plan -1", MayMust.BAD, fresh.states(-1, 0));
        CHECK.due("no plan 6", MayMust.BAD, fresh.states(6, 0));
        for (int n = 1; n <= 6; n++) {
            Counted x = with("states " + n + ";");
            CHECK.due("states", n, x.states(0, 0));
            CHECK.due("the last state", 0, x.arrow(0, n - 1, 0, n - 1));
            CHECK.due("none behind it, from", MayMust.BAD, x.arrow(0, n, 0, 0));
            CHECK.due("none behind it, to", MayMust.BAD, x.arrow(0, 0, 0, n));
            CHECK.due("the last state, value", 2, x.value(0, n - 1));
            CHECK.due("none behind it, value", MayMust.BAD, x.value(0, n));
            CHECK.due("the last state, left", 0, x.stays(0, n - 1, 1, 0));
            CHECK.due("none behind it, left", MayMust.BAD, x.stays(0, n, 1, 0));
            CHECK.due("the last state, right", 0, x.stays(1, 0, 0, n - 1));
            CHECK.due("none behind it, right", MayMust.BAD, x.stays(1, 0, 0, n));
            CHECK.due("the last state, put", 0, x.put(0, n - 1, 2, n - 1, 2));
            CHECK.due("none behind it, put from", MayMust.BAD, x.put(0, n, 2, 0, 2));
            CHECK.due("none behind it, put to", MayMust.BAD, x.put(0, 0, 2, n, 2));
            CHECK.due("one arrow", 1, x.states(0, 1));
        }
    }

    // "LETTERS a, b, c (0, 1, 2)"
    private static void letters() {
        Counted x = with("states 1;must 0 a 0;", "states 1;must 0 b 0;", "states 1;must 0 c 0;");
        for (int i = 0; i < 3; i++) {
            for (int letter = 0; letter < 3; letter++) {
                CHECK.due("arrow by letter " + letter, letter == i ? 2 : 0, x.arrow(i, 0, letter, 0));
            }
        }
        planFault("states 1;must 0 d 0;", 16);
        planFault("states 1;must 0 ` 0;", 16);
        planFault("states 1;must 0 z 0;", 16);
        planFault("states 1;must 0 C 0;", 16);
        String[] sayings = {"<a>1", "<b>1", "<c>1"};
        for (int letter = 0; letter < 3; letter++) {
            CHECK.due("say " + sayings[letter], 1, Check.say(x, sayings[letter]));
            for (int i = 0; i < 3; i++) {
                CHECK.due(sayings[letter] + " of plan " + i, letter == i ? 2 : 0, x.value(i, 0));
            }
        }
        sayFault("<d>1", 1);
        sayFault("[d]1", 1);
        sayFault("[`]1", 1);
    }

    // "there is no ARROW (0), one that MAY be (1), or one that MUST (2). (At first there are none.)"
    private static void arrows() {
        Counted x = new Counted();
        for (int i = 0; i < 6; i++) {
            for (int letter = 0; letter < 3; letter++) {
                CHECK.due("none at first", 0, x.arrow(i, 0, letter, 0));
            }
        }
        Check.plan(x, 3, "states 6;");
        CHECK.looks("none in a plan that tells none", x, 3, "states 6;");
        Check.plan(x, 3, "states 2;may 0 a 1;must 0 b 1;");
        CHECK.due("none", 0, x.arrow(3, 1, 0, 0));
        CHECK.due("may", 1, x.arrow(3, 0, 0, 1));
        CHECK.due("must", 2, x.arrow(3, 0, 1, 1));
    }

    // "A PLAN is told by a text (300 bytes at most)"
    private static void threeHundredBytes() {
        String twentyNine = "states 6;" + "may 0 a 0;".repeat(29);
        CHECK.due("its length", 299, twentyNine.length());
        reads(twentyNine, 29);
        reads(twentyNine + " ", 29);
        reads("states1;" + "may0a0;".repeat(41) + "     ", 41);
        says("1" + "|1".repeat(23) + " ".repeat(253), 24);
        says(" ".repeat(299) + "0", 1);
        // Each of the 300 bytes is a token of its own.
        String tokens = "((((((((((0))))))))))|".repeat(13);
        says(tokens + "!((((((1))))))", 14);
        sayFault(tokens + "!((((((1)))))|", 300);
        sayFault(tokens + "!(((((1))))));", 298);
        for (int n = 1; n <= 8; n++) {
            Counted x = new Counted();
            Check.tell(x, " ".repeat(300 - n));
            CHECK.due("the last " + n, 300, x.type(0x2020202020202031L, n));
            CHECK.refuses("byte 301", MayMust.FULL, x, y -> y.type('|', 1));
            CHECK.due("they are read", 1, x.say());
            Check.tell(x, "1" + " ".repeat(300 - n));
            int most = n;
            CHECK.refuses(n + " where " + (n - 1) + " fit", MayMust.FULL, x, y -> y.type(0x7C7C7C7C7C7C7C7CL, most));
            CHECK.due("what was there is read", 1, x.say());
        }
    }

    // "blanks (32) between TOKENS"
    private static void blanksBetween() {
        reads("states2;may0a1;must1c0;", 2);
        reads("states 2 ; may 0 a 1 ; must 1 c 0 ;", 2);
        reads("   states   2   ;   may   0   a   1   ;   ", 1);
        says("!(<a>[b]1|0)&1", 3);
        says(" ! ( < a > [ b ] 1 | 0 ) & 1 ", 3);
        for (int other : row(0, 9, 10, 11, 12, 13, 31, 34, 95, 127, 128, 160, 255)) {
            planFault("states 2;" + (char) other + "may 0 a 1;", 9);
            sayFault("1 " + (char) other + "|1", 2);
        }
        // Blanks part what they stand in.
        planFault("sta tes 2;", 0);
        planFault("states 2;ma y 0 a 1;", 9);
        sayFault("1 0", 2);
    }

    // "states N ; (1 .. 6)"
    private static void oneToSixStates() {
        for (int n = 1; n <= 6; n++) {
            Counted x = with("states " + n + ";");
            CHECK.due("states " + n, n, x.states(0, 0));
        }
        planFault("states 0;", 7);
        planFault("states 7;", 7);
        planFault("states 9;", 7);
        planFault("states 10;", 7);
        planFault("states 16;", 7);
        planFault("states 61;", 7);
        planFault("states ;", 7);
        planFault("states 6 6;", 9);
        planFault("states 6", 8);
    }

    // "then ITEMS: may S LETTER S ; must S LETTER S ;", "a NUMBER beyond what it may be"
    private static void items() {
        reads("states 1;", 0);
        for (int n = 1; n <= 6; n++) {
            String head = "states " + n + ";";
            int last = n - 1;
            reads(head + "may " + last + " a " + last + ";must " + last + " b 0;", 2);
            planFault(head + "may " + n + " a 0;", 13);
            planFault(head + "may 0 a " + n + ";", 17);
            planFault(head + "must " + n + " a 0;", 14);
            planFault(head + "must 0 a " + n + ";", 18);
        }
        planFault("states 2;;", 9);
        planFault("states 2;may 0 a 1;;", 19);
        planFault("states 2;states 2;", 9);
        planFault("states 2;a", 9);
        planFault("states 2;0", 9);
        planFault("may 0 a 0;", 0);
    }

    // "(told twice, what is more counts)"
    private static void toldTwice() {
        String may = "may 0 a 0;";
        String must = "must 0 a 0;";
        String[] items = {may + may, may + must, must + may, must + must, may + must + may, must + may + may, may + may + may};
        int[] more = {1, 2, 2, 2, 2, 2, 1};
        for (int k = 0; k < items.length; k++) {
            Counted x = new Counted();
            CHECK.due("items of " + items[k], items[k].split(";").length, Check.plan(x, 0, "states 1;" + items[k]));
            CHECK.due("arrow of " + items[k], more[k], x.arrow(0, 0, 0, 0));
            CHECK.due("musts of " + items[k], more[k] == 2 ? 1 : 0, x.states(0, 1));
            CHECK.due("choices of " + items[k], more[k] == 1 ? 1 : 0, x.states(0, 2));
            // Another text is not the same telling: what was there before does not count.
            Check.plan(x, 0, "states 1;" + may);
            CHECK.due("told anew after " + items[k], 1, x.arrow(0, 0, 0, 0));
        }
    }

    // ---- THE SAYING

    // "24 UNITS of 0 and 1 at most", "a 25th of 0 and 1"
    private static void twentyFour() {
        for (String bit : new String[] {"0", "1"}) {
            for (String sign : new String[] {"|", "&"}) {
                String most = bit + (sign + bit).repeat(23);
                says(most, 24);
                sayFault(most + sign + bit, 48);
                sayFault(most + sign + "2", 48);
                // A 24th that is open asks for more, but a 25th can't come.
                sayFault(most + sign, 48);
                sayFault(most + sign + "!" + bit, 49);
                sayFault(most + sign + "(" + bit + ")", 49);
                sayFault(most + sign + "<a>" + bit, 51);
                sayFault(most + sign + "[a]" + bit, 51);
                says("(" + most + ")", 24);
                sayFault("(" + most + ")" + sign + bit, 50);
            }
        }
        says("(1|0)" + "&(1|0)".repeat(11), 24);
        sayFault("(1|0)" + "&(1|0)".repeat(12), 73);
        sayFault("1|".repeat(24) + "x", 48);
        sayFault("1|".repeat(24) + "1" + "|$", 48);
    }

    // "10 ! ( < [ open in one another at most", "an eleventh that is open"
    private static void tenOpen() {
        String[] open = {"!", "(", "<a>", "[c]"};
        String[] close = {"", ")", "", ""};
        for (int k = 0; k < 4; k++) {
            says(open[k].repeat(10) + "1" + close[k].repeat(10), 1);
            for (int last = 0; last < 4; last++) {
                String nine = open[k].repeat(9) + open[last];
                says(nine + "1" + close[last] + close[k].repeat(9), 1);
                String ten = open[k].repeat(10);
                sayFault(ten + open[last] + "1" + close[last] + close[k].repeat(10), ten.length());
                // The eleventh is the fault as soon as it opens, whatever comes behind it.
                sayFault(ten + SIGNS.charAt(last), ten.length());
                sayFault(ten + SIGNS.charAt(last) + "$", ten.length());
            }
            sayFault(open[k].repeat(10), open[k].length() * 10);
            sayFault(open[k].repeat(10) + ")", open[k].length() * 10);
        }
        // What is closed is open no more.
        String tenAndClosed = "!(<b>[a]!(<c>[b]!(0)))";
        says(tenAndClosed + "|" + tenAndClosed + "&!!!!!!!!!!1", 3);
        says("((1)|" + "(".repeat(9) + "1" + ")".repeat(10), 2);
        sayFault("((1)|" + "(".repeat(10) + "1" + ")".repeat(11), 14);
        says("(!!!!!!!!!1|!!!!!!!!!0)", 2);
        sayFault("(!!!!!!!!!1|!!!!!!!!!!0)", 21);
        says("(!(!1)&!!!!!!!!!1)", 2);
    }

    // "At first it is 1."
    private static void atFirstOne() {
        Counted x = new Counted();
        CHECK.due("one of 0 and 1", 1, x.count(2));
        for (int i = 0; i < 6; i++) {
            CHECK.due("so everywhere", 2, x.value(i, 0));
        }
        CHECK.due("a saying of no text is none", -10, x.say());
        CHECK.due("it is 1 still", 2, x.value(0, 0));
    }

    // ---- FAULT

    // "the place of the first byte of the first TOKEN that can't stand there"
    private static void tokensThatCannotStand() {
        String[] plan = {"states", "2", ";", "may", "0", "a", "1", ";"};
        String[] tokens = {"states", "may", "must", "a", "b", "c", "0", "1", "2", "6", "7", "99",
            ";", "|", "&", "!", "(", ")", "<", ">", "[", "]"};
        String[] fine = {" states ", " 1 2 6 ", " ; ", " may must ", " 0 1 ", " a b c ", " 0 1 ", " ; "};
        for (int k = 0; k < plan.length; k++) {
            StringBuilder ahead = new StringBuilder();
            for (int j = 0; j < k; j++) {
                ahead.append(plan[j]).append(' ');
            }
            for (String token : tokens) {
                if (!fine[k].contains(" " + token + " ")) {
                    // Behind it stands a worse fault, which is not the first one.
                    planFault(ahead + token + " $ 007", ahead.length());
                }
            }
        }
        unitsDue(tokens, "", "1|", "1&", "!", "(", "<a>", "[b]");
        afterUnit(tokens);
        for (String token : tokens) {
            if (!token.matches("[abc]")) {
                sayFault("1|<" + token + ">1", 3);
                sayFault("1|[" + token + "]1", 3);
            }
            if (!token.equals(">")) {
                sayFault("<a " + token + " 1", 3);
            }
            if (!token.equals("]")) {
                sayFault("[a " + token + " 1", 3);
            }
        }
    }

    private static void unitsDue(String[] tokens, String... ahead) {
        for (String begun : ahead) {
            for (String token : tokens) {
                if (!token.matches("[01!(<\\[]")) {
                    sayFault(begun + " " + token + " $", begun.length() + 1);
                }
            }
        }
    }

    private static void afterUnit(String[] tokens) {
        for (String token : tokens) {
            if (!token.matches("[|&]")) {
                sayFault("1 " + token + " 1", 2);
                sayFault("<a>0 " + token + " 1", 5);
                if (!token.equals(")")) {
                    sayFault("(1 " + token + " 1", 3);
                }
            }
        }
    }

    // "of a byte that begins none .. that TOKEN's"
    private static void bytesThatBeginNone() {
        for (int b = 0; b < 256; b++) {
            boolean begins = b >= 'a' && b <= 'z' || b >= '0' && b <= '9' || b == ' ' || ";|&!()<>[]".indexOf(b) >= 0;
            if (!begins) {
                planFault("states 2;  " + (char) b, 11);
                planFault("states 2" + (char) b + ";", 8);
                sayFault((char) b + "1", 0);
                sayFault("1|" + (char) b, 2);
            }
        }
        planFault("states -2;", 7);
        planFault("states +2;", 7);
        planFault("states 2.0;", 8);
    }

    // "a word that is none of these .. that TOKEN's"
    private static void wordsThatAreNone() {
        for (String word : new String[] {"state", "statess", "xstates", "tates", "statesmay", "stated", "s"}) {
            planFault(word + " 2;", 0);
        }
        for (String word : new String[] {"ma", "mayb", "mayz", "maymay", "maymust", "mus", "mustx", "nay", "maz", "mbst", "m"}) {
            planFault("states 2; " + word + " 0 a 1;", 10);
        }
        for (String word : new String[] {"aa", "ab", "abc", "ba", "d", "maya"}) {
            planFault("states 2; may 0 " + word + " 1;", 16);
            sayFault("< " + word + " > 1", 2);
        }
        sayFault("one", 0);
        sayFault("a".repeat(300), 0);
        // A number ends a word, and a word ends a number.
        reads("states2;may0a1;", 1);
        planFault("states2a;", 7);
        planFault("states 2;may0aa1;", 13);
    }

    // "a NUMBER above 99 or with a 0 ahead of others .. that TOKEN's"
    private static void numbers() {
        String[] beyond = {"19", "90", "98", "99", "100", "101", "256", "257", "1000", "65537", "2147483648", "4294967296", "4294967297",
            "4294967298", "18446744073709551616", "18446744073709551617", "1".repeat(200), "1" + "0".repeat(200)};
        for (String number : beyond) {
            planFault("states " + number + ";", 7);
            planFault("states 2;may " + number + " a 0;", 13);
            planFault("states 2;may 0 a " + number + ";", 17);
            sayFault("1|" + number, 2);
        }
        for (String zeros : new String[] {"00", "01", "001", "02", "0".repeat(100), "0".repeat(50) + "1"}) {
            planFault("states " + zeros + ";", 7);
            planFault("states 2;may " + zeros + " a 0;", 13);
            planFault("states 2;may 0 a " + zeros + ";", 17);
            sayFault("1|" + zeros, 2);
        }
        reads("states 1;may 0 a 0;", 1);
        says("0", 1);
        sayFault("10", 0);
        sayFault("11", 0);
        sayFault("2", 0);
        sayFault("9", 0);
    }

    // "the text's length, if it ends too early"
    private static void endsTooEarly() {
        String[] plan = {"states", "2", ";", "must", "1", "b", "0", ";"};
        StringBuilder begun = new StringBuilder();
        for (int k = 0; k < plan.length; k++) {
            if (k == 3) {
                reads(begun.toString(), 0);
                reads(begun + "   ", 0);
            } else {
                planFault(begun.toString(), begun.length());
                planFault(begun + "   ", begun.length() + 3);
            }
            begun.append(plan[k]);
        }
        reads(begun.toString(), 1);
        for (String part : new String[] {"", "!", "(", "<", "<a", "<a>", "[", "[c", "[c]", "1|", "0&", "(1", "(1|", "((1)", "!(0&1"}) {
            sayFault(part, part.length());
            sayFault(part + " ", part.length() + 1);
        }
        sayFault(" ".repeat(300), 300);
        planFault(" ".repeat(300), 300);
        sayFault("1" + " ".repeat(298) + "|", 300);
        sayFault("1" + " ".repeat(298) + "x", 299);
        planFault("states 2;" + " ".repeat(288) + "may", 300);
        planFault("states 2;" + " ".repeat(290) + "x", 299);
        // The text stays, and can be gone on with.
        Counted x = new Counted();
        Check.tell(x, "(0");
        CHECK.due("too early", -12, x.say());
        CHECK.due("one more byte", 3, x.type(')', 1));
        CHECK.due("now it is whole", 1, x.say());
        CHECK.due("and counts", 0, x.value(0, 0));
    }

    // ---- 2 STRICTER

    private static void went(String what, String left, String right, int round, int letter, int side) {
        Counted x = with(left, right);
        CHECK.due(what + ": whether", round == 0 ? 1 : 0, x.stricter(0, 1, 0));
        CHECK.due(what + ": round", round, x.stricter(0, 1, 1));
        CHECK.due(what + ": letter", letter, x.stricter(0, 1, 2));
        CHECK.due(what + ": side", side, x.stricter(0, 1, 3));
        CHECK.due(what + ": stays", round, x.stays(0, 0, 1, 0));
    }

    // "at first all pairs .. stay. In each ROUND (1, 2, ..) those go, all at once"
    private static void rounds() {
        went("none goes", "states 6;", "states 6;may 0 a 0;", 0, MayMust.NONE, 0);
        went("in round 1", "states 1;may 0 a 0;", "states 1;", 1, 0, 1);
        went("in round 2", "states 2;may 0 b 1;may 1 a 1;", "states 2;may 0 b 1;", 2, 1, 1);
        // Round by round a pair more: 5 against 5 first, 0 against 0 in the sixth.
        String chain = "states 6;must 0 a 1;must 1 a 2;must 2 a 3;must 3 a 4;must 4 a 5;";
        Counted x = with(chain, chain + "must 5 a 5;");
        for (int s = 0; s < 6; s++) {
            CHECK.due("stays(0, " + s + ", 1, " + s + ")", 6 - s, x.stays(0, s, 1, s));
        }
        // Seen from the right: two states of the left one go first, then what leans on both of them.
        went("a must without one that stays", "states 3;must 0 a 1;must 0 a 2;", "states 2;must 0 a 1;must 1 b 1;", 2, 0, 1);
        went("a must with one that stays", "states 4;must 0 a 3;may 0 a 1;may 0 a 2;must 3 b 3;must 1 b 1;must 2 b 2;",
            "states 2;must 0 a 1;must 1 b 1;", 0, MayMust.NONE, 0);
        // Every arrow of the left one has its match in 2, but its must has none for 1, which lost 1 and 2 both.
        went("a must that lost two", "states 3;must 0 a 1;must 0 a 2;", "states 3;must 0 a 1;must 0 a 2;must 1 b 1;", 2, 0, 2);
    }

    // "It ends with a ROUND in which none goes."
    private static void lastRound() {
        // A ring of five and one of six: only 4 against 5 goes in round 1, and it is thirty steps by a from
        // one such pair to the next. The state 5 of the first plan is no part of its ring.
        Counted x = with("states 6;may 0 a 1;may 1 a 2;may 2 a 3;may 3 a 4;may 4 a 0;may 4 b 5;",
            "states 6;may 0 a 1;may 1 a 2;may 2 a 3;may 3 a 4;may 4 a 5;may 5 a 0;"
                + "may 0 b 0;may 1 b 0;may 2 b 0;may 3 b 0;may 4 b 0;");
        for (int step = 0; step < 30; step++) {
            CHECK.due("step " + step, 30 - step, x.stays(0, step % 5, 1, step % 6));
        }
        CHECK.due("no part of it", 0, x.stays(0, 5, 1, 5));
        CHECK.due("round 30", 30, x.stricter(0, 1, 1));
        CHECK.due("not stricter", 0, x.stricter(0, 1, 0));
        CHECK.due("by a", 0, x.stricter(0, 1, 2));
        CHECK.due("by an arrow of the first", 1, x.stricter(0, 1, 3));
        x.put(1, 5, 1, 0, 1);
        CHECK.due("the first round is the last", 0, x.stricter(0, 1, 1));
        CHECK.due("stricter", 1, x.stricter(0, 1, 0));
    }

    // "WHY: the first LETTER by which it had to go then, and whether by the one .. or the other (.. where both, 1)"
    private static void why() {
        went("by the one", "states 1;may 0 c 0;", "states 1;", 1, 2, 1);
        went("by the other", "states 1;", "states 1;must 0 c 0;", 1, 2, 2);
        went("may is no must", "states 1;may 0 c 0;", "states 1;must 0 c 0;", 1, 2, 2);
        went("where both by one letter", "states 2;must 0 b 1;must 1 a 1;", "states 2;must 0 b 1;must 1 c 1;", 2, 1, 1);
        went("the one by a, the other by b", "states 1;may 0 a 0;", "states 1;must 0 b 0;", 1, 0, 1);
        went("the other by a, the one by b", "states 1;may 0 b 0;", "states 1;must 0 a 0;", 1, 0, 2);
        went("a and b and c", "states 1;may 0 a 0;may 0 b 0;may 0 c 0;", "states 1;", 1, 0, 1);
        went("b and c", "states 1;may 0 a 0;may 0 b 0;may 0 c 0;", "states 1;may 0 a 0;", 1, 1, 1);
        // By a it would have to go in round 2 only; it goes by c, in round 1.
        went("then", "states 2;may 0 a 1;may 1 b 1;may 0 c 0;", "states 2;may 0 a 1;", 1, 2, 1);
        went("it stays", "states 2;must 0 a 1;", "states 2;may 0 a 1;", 0, MayMust.NONE, 0);
    }

    // "Where it went: WHY": of the pair of this call, not of one that was asked for before.
    private static void whyIsOfThisCall() {
        Counted x = with("states 1;may 0 c 0;", "states 1;");
        CHECK.due("letter", 2, x.stricter(0, 1, 2));
        CHECK.due("letter where it stays", MayMust.NONE, x.stricter(1, 0, 2));
        CHECK.due("side", 1, x.stricter(0, 1, 3));
        CHECK.due("side where it stays", 0, x.stricter(1, 0, 3));
        CHECK.due("round", 1, x.stricter(0, 1, 1));
        CHECK.due("round where it stays", 0, x.stricter(1, 0, 1));
        CHECK.due("and it stays", 0, x.stays(1, 0, 0, 0));
    }

    // "ALIKE: each is STRICTER than the other one."
    private static void alike() {
        Counted x = with("states 1;must 0 a 0;", "states 2;must 0 a 1;must 1 a 0;", "states 1;may 0 a 0;", "states 1;may 0 b 0;");
        CHECK.due("each than the other", 1, x.alike(0, 1));
        CHECK.due("itself", 1, x.alike(0, 0));
        CHECK.due("the first only", 0, x.alike(0, 2));
        CHECK.due("the second only", 0, x.alike(2, 0));
        CHECK.due("neither", 0, x.alike(0, 3));
    }

    // ---- 3 MADE OF OTHERS

    private static void makes(String what, int mode, String text, String want) {
        Counted x = with(text);
        CHECK.due(what, want.charAt(7) - '0', x.make(0, mode, 3));
        CHECK.looks(what, x, 3, want);
    }

    // "LEAST machine: ARROWS that MAY be are left out. GREATEST: these become ones that MUST."
    private static void leastAndGreatest() {
        String may = "states 2;may 0 a 1;may 1 c 0;";
        String must = may.replace("may", "must");
        makes("least of none", 0, "states 6;", "states 6;");
        makes("greatest of none", 1, "states 6;", "states 6;");
        makes("least of mays", 0, may, "states 2;");
        makes("greatest of mays", 1, may, must);
        makes("least of musts", 0, must, must);
        makes("greatest of musts", 1, must, must);
        makes("least of both", 0, "states 2;may 0 a 0;must 0 a 1;", "states 2;must 0 a 1;");
        makes("greatest of both", 1, "states 2;may 0 a 0;must 0 a 1;", "states 2;must 0 a 0;must 0 a 1;");
    }

    // "SMALL: STATES s, t of a PLAN are one, if both pairs s, t and t, s .. stay; each is told by its least STATE,
    // in order; from that to the one of t as its greatest ARROW to any of these by that LETTER; then STATES that
    // can't be come to from that of STATE 0 (by ARROWS, MAY or MUST) are left out, others numbered in order."
    private static void small() {
        makes("all are one", 2, "states 6;", "states 1;");
        makes("all are one, in a ring", 2, "states 6;may 0 a 1;may 1 a 2;may 2 a 3;may 3 a 4;may 4 a 5;may 5 a 0;", "states 1;may 0 a 0;");
        String chain = "states 6;may 0 a 1;must 1 a 2;may 2 a 3;must 3 a 4;may 4 a 5;";
        makes("none are one", 2, chain, chain);
        makes("just one pair stays", 2, "states 3;may 0 a 1;may 0 a 2;may 1 b 1;", "states 3;may 0 a 1;may 0 a 2;may 1 b 1;");
        makes("the greatest arrow, may first", 2, "states 3;may 0 a 1;must 0 a 2;", "states 2;must 0 a 1;");
        makes("the greatest arrow, must first", 2, "states 3;must 0 a 1;may 0 a 2;", "states 2;must 0 a 1;");
        makes("no must among these", 2, "states 3;may 0 a 1;may 0 a 2;", "states 2;may 0 a 1;");
        makes("by that letter alone", 2, "states 3;may 0 a 1;must 0 b 2;", "states 2;may 0 a 1;must 0 b 1;");
        makes("come to by may", 2, "states 2;may 0 a 1;may 1 b 1;", "states 2;may 0 a 1;may 1 b 1;");
        makes("come to by must", 2, "states 2;must 0 a 1;may 1 b 1;", "states 2;must 0 a 1;may 1 b 1;");
        makes("not come to", 2, "states 2;may 1 a 0;", "states 1;");
        makes("not come to any more", 2, "states 4;may 0 a 2;may 1 b 3;may 2 b 3;may 3 c 3;", "states 3;may 0 a 1;may 1 b 2;may 2 c 2;");
        makes("to the one of state 0", 2, "states 3;may 0 a 1;must 1 b 0;may 1 b 2;may 2 a 1;", "states 2;may 0 a 1;must 1 b 0;");
        makes("the last one alone", 2, "states 6;may 0 a 5;may 5 b 5;", "states 2;may 0 a 1;may 1 b 1;");
    }

    private static void joins(String what, int mode, String left, String right, String want) {
        Counted x = with(left, right);
        CHECK.due(what, want.charAt(7) - '0', x.join(0, 1, mode, 3));
        CHECK.looks(what, x, 3, want);
    }

    private static void joinRefused(String what, int mode, String left, String right, int want) {
        Counted x = with(left, right);
        CHECK.refuses(what, want, x, y -> y.join(0, 1, mode, 3));
    }

    private static String oneArrow(int v) {
        return v == 0 ? "states 1;" : v == 1 ? "states 1;may 0 b 0;" : "states 1;must 0 b 0;";
    }

    // "SIDE BY SIDE: .. the lesser of both ARROWS." "Pairs are numbered as they are come to"
    private static void sideBySide() {
        for (int k = 0; k < 9; k++) {
            joins("lesser of " + k / 3 + " and " + k % 3, 0, oneArrow(k / 3), oneArrow(k % 3), oneArrow(Math.min(k / 3, k % 3)));
        }
        // 1,1 and 2,1 by a, then 0,1 by b, in whatever order the arrows were told.
        joins("in order", 0, "states 3;may 0 b 0;may 0 a 2;may 0 a 1;", "states 3;may 0 b 1;may 0 a 1;",
            "states 4;may 0 a 1;may 0 a 2;may 0 b 3;");
        joins("by s2, then t2", 0, "states 3;may 0 a 1;must 0 a 2;", "states 3;may 0 a 1;must 0 a 2;",
            "states 5;may 0 a 1;may 0 a 2;may 0 a 3;must 0 a 4;");
        // 0 goes to 1 by b and to 2 by a: what is come to by a has the lower number.
        joins("letter by letter", 0, "states 3;may 0 b 1;may 0 a 2;may 1 c 1;", "states 1;may 0 a 0;may 0 b 0;may 0 c 0;",
            "states 3;may 0 a 1;may 0 b 2;may 2 c 2;");
    }

    // "BOTH AT ONCE: likewise the greater one, if there are both; a pair CLASHES, if from one of it there is an ARROW
    // that MUST .. to a STATE with which no pair stands .. (those that do are left out again and again)."
    private static void bothAtOnce() {
        for (int k = 0; k < 9; k++) {
            int one = k / 3;
            int two = k % 3;
            String what = "greater of " + one + " and " + two;
            if (one + two == 2 && one != two) {
                joinRefused(what, 1, oneArrow(one), oneArrow(two), MayMust.STATE);
            } else {
                joins(what, 1, oneArrow(one), oneArrow(two), oneArrow(one * two == 0 ? 0 : Math.max(one, two)));
            }
        }
        // By one of two arrows that may be a pair is come to that clashes: it is left out, the other one stays.
        joins("left out", 1, "states 3;may 0 a 1;may 0 a 2;must 2 b 2;", "states 2;may 0 a 1;", "states 2;may 0 a 1;");
        // 2,2 clashes by c, so 1,1 has no pair for its must any more and is left out, too.
        joins("left out again", 1, "states 3;may 0 a 1;must 1 b 2;must 2 c 2;", "states 3;may 0 a 1;may 1 b 2;", "states 1;");
        // Both of 1's partners: one clashes, the other one does not.
        joins("another one stands", 1, "states 2;must 0 a 1;must 1 b 1;", "states 3;may 0 a 1;may 0 a 2;may 2 b 2;",
            "states 2;must 0 a 1;must 1 b 1;");
        // Seven are come to by arrows, but one of them clashes.
        String seven = "states 4;may 0 a 1;may 0 a 2;may 0 b 3;may 0 c 0;";
        String other = "states 4;may 0 a 1;may 0 a 2;may 0 b 3;may 0 c 1;";
        joinRefused("seven", 1, seven, other, MayMust.FULL);
        joins("six of seven", 1, seven + "must 3 a 3;", other,
            "states 6;may 0 a 1;may 0 a 2;may 0 a 3;may 0 a 4;may 0 c 5;");
    }

    // "(Where the first pair CLASHES there is no such PLAN.)"
    private static void firstPairClashes() {
        String chain = "states 3;must 0 a 1;must 1 a 2;";
        String follows = "states 3;may 0 a 1;may 1 a 2;";
        joins("none clashes", 1, chain, follows, chain);
        joinRefused("the first one by the last", 1, chain + "must 2 b 2;", follows, MayMust.STATE);
        joinRefused("by the second plan's must", 1, follows, chain + "must 2 b 2;", MayMust.STATE);
        joins("the last one alone, behind a may", 1, "states 3;must 0 a 1;may 1 a 2;must 2 b 2;", follows, "states 2;must 0 a 1;");
        joins("side by side none clashes", 0, chain + "must 2 b 2;", follows, "states 3;may 0 a 1;may 1 a 2;");
    }

    // "CHOICES: ARROWS that MAY be (of all STATES)."
    private static void choices() {
        Counted x = with("states 6;");
        CHECK.due("none", 0, x.states(0, 2));
        for (int k = 0; k < 108; k++) {
            x.put(0, k / 18, k / 6 % 3, k % 6, 1);
        }
        CHECK.due("all", 108, x.states(0, 2));
        CHECK.due("no musts", 0, x.states(0, 1));
        x.put(0, 5, 2, 5, 2);
        CHECK.due("all but one", 107, x.states(0, 2));
        CHECK.due("greatest", 6, x.make(0, 1, 0));
        CHECK.due("no choice", 0, x.states(0, 2));
        CHECK.due("all musts", 108, x.states(0, 1));
    }

    // ---- 4 VALUE

    private static void valueBy(String saying, int want, int... arrows) {
        Counted x = with(ZERO_ONE_TWO);
        for (int t = 0; t < arrows.length; t++) {
            x.put(0, 3, 0, t, arrows[t]);
        }
        Check.say(x, saying);
        StringBuilder told = new StringBuilder();
        for (int v : arrows) {
            told.append(' ').append(v);
        }
        CHECK.due(saying + " by arrows" + told + " to 0, 1, 2", want, x.value(0, 3));
    }

    // "< LETTER > UNIT: the greatest over ARROWS by it of VALUE at where it goes, 1 at most for one that MAY be;
    // 0 without ARROWS."
    private static void valuesOfSome() {
        valueBy("<a><b>1", 0, 0, 0, 0);
        valueBy("<a>1", 0, 0, 0, 0);
        valueBy("<a><b>1", 0, 1, 0, 0);
        valueBy("<a><b>1", 1, 0, 1, 0);
        valueBy("<a><b>1", 1, 0, 0, 1);
        valueBy("<a><b>1", 0, 2, 0, 0);
        valueBy("<a><b>1", 1, 0, 2, 0);
        valueBy("<a><b>1", 2, 0, 0, 2);
        valueBy("<a><b>1", 1, 2, 2, 1);
        valueBy("<a><b>1", 2, 1, 1, 2);
        valueBy("<c>1", 0, 2, 2, 2);
    }

    // "[ LETTER ] UNIT: the least of these, 1 at least for one that MAY be; 2 without ARROWS."
    private static void valuesOfEach() {
        valueBy("[a]<b>1", 2, 0, 0, 0);
        valueBy("[a]0", 2, 0, 0, 0);
        valueBy("[a]<b>1", 1, 1, 0, 0);
        valueBy("[a]<b>1", 1, 0, 1, 0);
        valueBy("[a]<b>1", 2, 0, 0, 1);
        valueBy("[a]<b>1", 0, 2, 0, 0);
        valueBy("[a]<b>1", 1, 0, 2, 0);
        valueBy("[a]<b>1", 2, 0, 0, 2);
        valueBy("[a]<b>1", 1, 1, 2, 2);
        valueBy("[a]<b>1", 0, 2, 1, 1);
        valueBy("[c]0", 2, 2, 2, 2);
    }

    // "1 is 2, 0 is 0; | the greatest, & the least, ! 2 less it": at every state by itself.
    private static void valuesAtManyStates() {
        Counted x = with("states 6;must 0 a 1;must 2 a 0;may 3 a 0;may 4 a 4;must 5 a 5;");
        String[] sayings = {"<a>1", "!<a>1", "[a]0", "[a]<a>1", "<a>1|0", "<a>1|1", "<a>1&0", "<a>1&1", "<a>1&!<a>1", "<a>1|!<a>1"};
        int[][] values = {row(2, 0, 2, 1, 1, 2), row(0, 2, 0, 1, 1, 0), row(0, 2, 0, 1, 1, 0), row(0, 2, 2, 2, 1, 2), row(2, 0, 2, 1, 1, 2),
            row(2, 2, 2, 2, 2, 2), row(0, 0, 0, 0, 0, 0), row(2, 0, 2, 1, 1, 2), row(0, 0, 0, 1, 1, 0), row(2, 2, 2, 1, 1, 2)};
        for (int k = 0; k < sayings.length; k++) {
            Check.say(x, sayings[k]);
            for (int s = 0; s < 6; s++) {
                CHECK.due("'" + sayings[k] + "' at " + s, values[k][s], x.value(0, s));
            }
        }
    }

    // ---- 5 THE WALK

    private static void walkIs(String when, Counted x, int... want) {
        for (int what = 0; what < 4; what++) {
            CHECK.due(when + ": walk(" + what + ")", want[what], x.walk(what));
        }
    }

    // "it begins at STATE 0"
    private static void walkBegins() {
        Counted x = new Counted();
        walkIs("of a new object", x, 1, 0, 0, 0);
        CHECK.refuses("go(0) of a new object", MayMust.STATE, x, y -> y.go(0));
        Check.plan(x, 0, "states 3;must 0 a 1;must 1 b 2;must 2 c 0;");
        walkIs("no plan was begun yet", x, 1, 0, 0, 0);
        CHECK.due("begin", 0, x.begin(0));
        walkIs("begun", x, 1, 1, 1, 0);
        x.go(0);
        x.go(1);
        walkIs("gone", x, 4, 4, 4, 2);
        CHECK.due("begin again", 2, x.begin(0));
        walkIs("begun again", x, 1, 1, 1, 0);
        Check.plan(x, 1, "states 6;must 1 a 1;must 5 b 5;");
        CHECK.due("begin where state 0 has no arrows", 0, x.begin(1));
        walkIs("begun there", x, 1, 0, 0, 0);
    }

    // "LETTERS that MAY come: from some of these STATES there is an ARROW; that MUST be there: from each of them
    // one that MUST."
    private static void lettersOfTheWalk() {
        Counted x = with("states 1;must 0 a 0;must 0 b 0;must 0 c 0;", "states 1;must 0 a 0;must 0 b 0;may 0 c 0;",
            "states 6;may 0 a 0;may 0 a 1;may 0 a 2;may 0 a 3;may 0 a 4;may 0 a 5;"
                + "must 0 b 0;must 1 b 0;must 2 b 0;must 3 b 0;must 4 b 0;must 5 b 0;must 5 c 0;");
        x.begin(0);
        walkIs("all three must", x, 1, 7, 7, 0);
        x.begin(1);
        walkIs("two of three must", x, 1, 7, 3, 0);
        x.begin(2);
        walkIs("one", x, 1, 3, 2, 0);
        CHECK.due("to all six", 6, x.go(0));
        walkIs("all six must by b, some may by c", x, 63, 7, 2, 1);
        x.put(2, 5, 1, 0, 1);
        x.begin(2);
        x.go(0);
        walkIs("five of six must by b", x, 63, 7, 0, 1);
        CHECK.due("by c from just one", 1, x.go(2));
        walkIs("by c", x, 1, 3, 2, 2);
    }

    // ---- Refused, and 512 calls

    // "Refused, and nothing changes, the first of these: BAD .., STATE (as told), FULL."
    private static void firstOfRefusals() {
        Counted x = new Counted();
        Check.tell(x, " ".repeat(300));
        CHECK.refuses("BAD ahead of FULL, type", MayMust.BAD, x, y -> y.type(0, 9));
        CHECK.due("BAD ahead of FULL, type", MayMust.BAD, x.type(0, 0));
        CHECK.due("FULL, type", MayMust.FULL, x.type(0, 8));
        CHECK.refuses("BAD ahead of a fault", MayMust.BAD, x, y -> y.plan(6));
        CHECK.due("a fault", -310, x.plan(5));
        joinRefused("STATE ahead of FULL", 1, "states 4;may 0 a 1;may 0 a 2;may 0 a 3;must 0 b 0;",
            "states 4;may 0 a 1;may 0 a 2;may 0 a 3;", MayMust.STATE);
        joinRefused("FULL", 1, "states 4;may 0 a 1;may 0 a 2;may 0 a 3;",
            "states 4;may 0 a 1;may 0 a 2;may 0 a 3;", MayMust.FULL);
        Counted y = with("states 4;may 0 a 1;may 0 a 2;may 0 a 3;must 0 b 0;", "states 4;may 0 a 1;may 0 a 2;may 0 a 3;");
        CHECK.refuses("BAD ahead of STATE, join", MayMust.BAD, y, z -> z.join(0, 1, 1, 6));
        CHECK.due("BAD ahead of FULL, join", MayMust.BAD, y.join(1, 1, 1, -1));
        CHECK.due("FULL, join", MayMust.FULL, y.join(1, 1, 1, 5));
    }

    // "An object is used for at most 512 calls after it has been made"
    private static void calls512() {
        Counted x = new Counted();
        for (int k = x.calls(); k < Counted.MOST_CALLS - 1; k++) {
            CHECK.due("call " + (k + 1), k % 3, x.put(0, 0, 0, 0, (k + 1) % 3));
        }
        CHECK.due("call 512", 511 % 3, x.arrow(0, 0, 0, 0));
        CHECK.due("calls", Counted.MOST_CALLS, x.calls());
    }
}
