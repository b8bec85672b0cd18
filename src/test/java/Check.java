/** What the tests share: counting wrong answers, and telling texts. */
final class Check {
    private int wrong = 0;
    private int asked = 0;

    void due(String call, long want, long got) {
        asked++;
        if (want != got) {
            wrong++;
            System.out.println(call + " answered " + got + ", due is " + want);
        }
    }

    void that(String what, boolean so) {
        due(what, 1, so ? 1 : 0);
    }

    /** THE TEXT becomes these bytes (signs 0 to 255), whatever it was. */
    static void tell(MayMust x, String text) {
        x.clear();
        for (int from = 0; from < text.length(); from += 8) {
            int n = Math.min(8, text.length() - from);
            long v = 0;
            for (int k = 0; k < n; k++) {
                v = v << 8 | text.charAt(from + k);
            }
            x.type(v, n);
        }
    }

    static int plan(MayMust x, int i, String text) {
        tell(x, text);
        return x.plan(i);
    }

    static int say(MayMust x, String text) {
        tell(x, text);
        return x.say();
    }

    /** All that can be asked of a plan, as a text. */
    static String look(MayMust x, int i) {
        StringBuilder b = new StringBuilder("states " + x.states(i, 0) + ";");
        for (int s = 0; s < x.states(i, 0); s++) {
            for (int letter = 0; letter < 3; letter++) {
                for (int t = 0; t < x.states(i, 0); t++) {
                    int v = x.arrow(i, s, letter, t);
                    if (v != 0) {
                        b.append(v == 2 ? "must " : "may ").append(s).append(' ')
                            .append((char) ('a' + letter)).append(' ').append(t).append(';');
                    }
                }
            }
        }
        return b.toString();
    }

    void looks(String call, MayMust x, int i, String want) {
        String got = look(x, i);
        due("after " + call + " states(" + i + ", 1)", want.split("must").length - 1, x.states(i, 1));
        due("after " + call + " states(" + i + ", 2)", want.split("may").length - 1, x.states(i, 2));
        asked++;
        if (!got.equals(want)) {
            wrong++;
            System.out.println("after " + call + " plan " + i + " is " + got + ", due is " + want);
        }
    }

    void end() {
        System.out.println(asked + " answers, " + wrong + " wrong");
        if (wrong != 0 || asked == 0) {
            System.exit(1);
        }
    }
}
