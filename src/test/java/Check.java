import java.util.function.ToIntFunction;

/** What the tests share: counting wrong answers, telling texts, and looking at all that a call could change. */
final class Check {
    private int wrong = 0;
    private int asked = 0;

    void due(String call, long want, long got) {
        asked++;
        if (want != got) {
            wrong++;
            System.out.println(call + " answered " + got + ", due is " + want);
        }
    }

    void that(String what, boolean so) {
        due(what, 1, so ? 1 : 0);
    }

    void same(String what, String want, String got) {
        asked++;
        if (!got.equals(want)) {
            wrong++;
            System.out.println(what + ": it is " + got + ", due is " + want);
        }
    }

    /** The call is refused so, and nothing changes that can be asked for (the bytes of the text can't). */
    void refuses(String call, int want, Counted x, ToIntFunction<Counted> made) {
        String before = all(x);
        due(call, want, made.applyAsInt(x));
        same("refused " + call, before, all(x));
    }

    /** THE TEXT becomes these bytes (signs 0 to 255), whatever it was. */
    static void tell(Counted x, String text) {
        x.clear();
        for (int from = 0; from < text.length(); from += 8) {
            int n = Math.min(8, text.length() - from);
            long v = 0;
            for (int k = 0; k < n; k++) {
                v = v << 8 | text.charAt(from + k);
            }
            x.type(v, n);
        }
    }

    static int plan(Counted x, int i, String text) {
        tell(x, text);
        return x.plan(i);
    }

    static int say(Counted x, String text) {
        tell(x, text);
        return x.say();
    }

    /** All that can be asked of a plan, as a text. */
    static String look(Counted x, int i) {
        int size = x.states(i, 0);
        StringBuilder b = new StringBuilder("states " + size + ";");
        for (int s = 0; s < size; s++) {
            for (int letter = 0; letter < 3; letter++) {
                for (int t = 0; t < size; t++) {
                    int v = x.arrow(i, s, letter, t);
                    if (v != 0) {
                        b.append(v == 2 ? "must " : "may ").append(s).append(' ')
                            .append((char) ('a' + letter)).append(' ').append(t).append(';');
                    }
                }
            }
        }
        return b.toString();
    }

    /** All that can be asked of an object without a change to it, as a text. */
    static String all(Counted x) {
        StringBuilder b = new StringBuilder();
        for (int i = 0; i < 6; i++) {
            b.append(look(x, i)).append(' ').append(x.states(i, 1)).append(' ').append(x.states(i, 2)).append(" values");
            for (int v = 0; v < 3; v++) {
                b.append(' ').append(x.how(i, v));
            }
            b.append('\n');
        }
        b.append("walk");
        for (int what = 0; what < 4; what++) {
            b.append(' ').append(x.walk(what));
        }
        return b.append(", text ").append(x.count(1)).append(", saying ").append(x.count(2)).toString();
    }

    void looks(String call, Counted x, int i, String want) {
        same("after " + call + " plan " + i, want, look(x, i));
        due("after " + call + " states(" + i + ", 1)", want.split("must").length - 1, x.states(i, 1));
        due("after " + call + " states(" + i + ", 2)", want.split("may").length - 1, x.states(i, 2));
    }

    void end() {
        System.out.println(asked + " answers, " + wrong + " wrong");
        if (wrong != 0 || asked == 0) {
            System.exit(1);
        }
    }
}
