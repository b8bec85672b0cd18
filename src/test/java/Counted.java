/**
 * An object of the class with its calls counted: the document promises nothing behind the 512th,
 * so a test that goes on is itself wrong, and ends here.
 */
final class Counted {
    static final int MOST_CALLS = 512;
    private final MayMust x = new MayMust();
    private int calls = 0;

    int calls() {
        return calls;
    }

    private MayMust used() {
        calls++;
        if (calls > MOST_CALLS) {
            throw new IllegalStateException("a test made more than " + MOST_CALLS + " calls on one object");
        }
        return x;
    }

    int type(long v, int n) {
        return used().type(v, n);
    }

    int clear() {
        return used().clear();
    }

    int plan(int i) {
        return used().plan(i);
    }

    int say() {
        return used().say();
    }

    int states(int i, int what) {
        return used().states(i, what);
    }

    int arrow(int i, int s, int letter, int t) {
        return used().arrow(i, s, letter, t);
    }

    int put(int i, int s, int letter, int t, int v) {
        return used().put(i, s, letter, t, v);
    }

    int stricter(int i, int j, int what) {
        return used().stricter(i, j, what);
    }

    int stays(int i, int s, int j, int t) {
        return used().stays(i, s, j, t);
    }

    int alike(int i, int j) {
        return used().alike(i, j);
    }

    int make(int i, int what, int to) {
        return used().make(i, what, to);
    }

    int join(int i, int j, int what, int to) {
        return used().join(i, j, what, to);
    }

    int value(int i, int s) {
        return used().value(i, s);
    }

    int how(int i, int v) {
        return used().how(i, v);
    }

    int begin(int i) {
        return used().begin(i);
    }

    int go(int letter) {
        return used().go(letter);
    }

    int walk(int what) {
        return used().walk(what);
    }

    int count(int what) {
        return used().count(what);
    }

    /** A call told by its name, so that calls can stand in tables. */
    int call(String name, int... a) {
        return switch (name) {
            case "type" -> type(a[0], a[1]);
            case "plan" -> plan(a[0]);
            case "states" -> states(a[0], a[1]);
            case "arrow" -> arrow(a[0], a[1], a[2], a[3]);
            case "put" -> put(a[0], a[1], a[2], a[3], a[4]);
            case "stricter" -> stricter(a[0], a[1], a[2]);
            case "stays" -> stays(a[0], a[1], a[2], a[3]);
            case "alike" -> alike(a[0], a[1]);
            case "make" -> make(a[0], a[1], a[2]);
            case "join" -> join(a[0], a[1], a[2], a[3]);
            case "value" -> value(a[0], a[1]);
            case "how" -> how(a[0], a[1]);
            case "begin" -> begin(a[0]);
            case "go" -> go(a[0]);
            case "walk" -> walk(a[0]);
            case "count" -> count(a[0]);
            default -> throw new IllegalArgumentException(name);
        };
    }
}
