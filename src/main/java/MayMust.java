import java.util.Arrays;

/**
 * Plans of machines with arrows that may be there and arrows that must; which plan is stricter,
 * plans made of others, a saying about steps, and walks.
 */
public final class MayMust {
    public static final int BAD = -1, STATE = -2, FULL = -3, NONE = -9;

    private static final int PLANS = 6;
    private static final int MOST_STATES = 6;
    private static final int LETTERS = 3;
    private static final int MOST_BYTES = 300;
    private static final int MOST_BITS = 24;
    private static final int MOST_OPEN = 10;
    private static final int MOST_GONE = 200;
    private static final int FAULT_AT_0 = -10;

    // Kinds of tokens; a sign such as ';' is its own kind, and all signs are above these.
    private static final int END = 0;
    private static final int WRONG = 1;
    private static final int NUMBER = 2;
    private static final int LETTER = 3;
    private static final int WORD_STATES = 4;
    private static final int WORD_MAY = 5;
    private static final int WORD_MUST = 6;
    private static final String SIGNS = ";|&!()<>[]";

    // Steps of a saying; a part stands ahead of what is made of it, so a stack works them out in order.
    private static final int STEP_0 = 0;
    private static final int STEP_1 = 1;
    private static final int STEP_NOT = 2;
    private static final int STEP_AND = 3;
    private static final int STEP_OR = 4;
    private static final int STEP_SOME = 5;
    private static final int STEP_EACH = STEP_SOME + LETTERS;

    private static final int ALL_STATES = (1 << MOST_STATES) - 1;

    private final Plan[] plans;
    private final Plan draft;
    private final Text text;
    private final Reader reader;
    private final Saying saying;
    private final Saying draftSaying;
    private final Rounds rounds;
    private final Shrinker shrinker;
    private final Joiner joiner;
    private final Walker walker;

    public MayMust() {
        plans = new Plan[PLANS];
        for (int i = 0; i < PLANS; i++) {
            plans[i] = new Plan();
        }
        draft = new Plan();
        text = new Text();
        reader = new Reader();
        saying = new Saying();
        draftSaying = new Saying();
        rounds = new Rounds();
        shrinker = new Shrinker();
        joiner = new Joiner();
        walker = new Walker();
    }

    // ---- plans

    public int type(long v, int n) {
        if (n < 1 || n > 8) {
            return BAD;
        }
        return text.append(v, n) ? text.size() : FULL;
    }

    public int clear() {
        return text.drain();
    }

    public int plan(int i) {
        if (noPlan(i)) {
            return BAD;
        }
        int items = reader.readPlan(text, draft);
        if (items >= 0) {
            plans[i].become(draft);
            text.drain();
        }
        return items;
    }

    public int say() {
        int bits = reader.readSaying(text, draftSaying);
        if (bits >= 0) {
            saying.become(draftSaying);
            text.drain();
        }
        return bits;
    }

    public int states(int i, int what) {
        if (noPlan(i) || what < 0 || what > 2) {
            return BAD;
        }
        if (what == 0) {
            return plans[i].size();
        }
        return what == 1 ? plans[i].musts() : plans[i].choices();
    }

    public int arrow(int i, int s, int letter, int t) {
        if (noArrow(i, s, letter, t)) {
            return BAD;
        }
        return plans[i].at(s, letter, t);
    }

    public int put(int i, int s, int letter, int t, int v) {
        if (noArrow(i, s, letter, t) || v < 0 || v > 2) {
            return BAD;
        }
        int was = plans[i].at(s, letter, t);
        plans[i].lay(s, letter, t, v);
        return was;
    }

    // ---- stricter

    public int stricter(int i, int j, int what) {
        if (noPlan(i) || noPlan(j) || what < 0 || what > 3) {
            return BAD;
        }
        boolean isStricter = rounds.play(plans[i], plans[j]);
        if (what == 0) {
            return isStricter ? 1 : 0;
        }
        if (what == 1) {
            return rounds.roundOf(0, 0);
        }
        return what == 2 ? rounds.whyLetter() : rounds.whySide();
    }

    public int stays(int i, int s, int j, int t) {
        if (noState(i, s) || noState(j, t)) {
            return BAD;
        }
        rounds.play(plans[i], plans[j]);
        return rounds.roundOf(s, t);
    }

    public int alike(int i, int j) {
        if (noPlan(i) || noPlan(j)) {
            return BAD;
        }
        return rounds.play(plans[i], plans[j]) && rounds.play(plans[j], plans[i]) ? 1 : 0;
    }

    // ---- made of others

    public int make(int i, int what, int to) {
        if (noPlan(i) || noPlan(to) || what < 0 || what > 2) {
            return BAD;
        }
        if (what == 2) {
            rounds.play(plans[i], plans[i]);
            shrinker.shrink(plans[i], rounds, draft);
        } else {
            draft.become(plans[i]);
            draft.settle(what == 1);
        }
        plans[to].become(draft);
        return draft.size();
    }

    public int join(int i, int j, int what, int to) {
        if (noPlan(i) || noPlan(j) || noPlan(to) || what < 0 || what > 1) {
            return BAD;
        }
        int made = joiner.combine(plans[i], plans[j], what == 1, draft);
        if (made > 0) {
            plans[to].become(draft);
        }
        return made;
    }

    // ---- sayings

    public int value(int i, int s) {
        if (noState(i, s)) {
            return BAD;
        }
        return Saying.valueOf(saying.valuesIn(plans[i]), s);
    }

    public int how(int i, int v) {
        if (noPlan(i) || v < 0 || v > 2) {
            return BAD;
        }
        int values = saying.valuesIn(plans[i]);
        int found = 0;
        for (int s = 0; s < plans[i].size(); s++) {
            found += Saying.valueOf(values, s) == v ? 1 : 0;
        }
        return found;
    }

    // ---- walks

    public int begin(int i) {
        if (noPlan(i)) {
            return BAD;
        }
        return walker.restart(plans[i]);
    }

    public int go(int letter) {
        if (noLetter(letter)) {
            return BAD;
        }
        return walker.step(letter);
    }

    public int walk(int what) {
        if (what < 0 || what > 3) {
            return BAD;
        }
        if (what == 0) {
            return walker.where();
        }
        if (what == 1) {
            return walker.mayCome();
        }
        return what == 2 ? walker.mustBeThere() : walker.gone();
    }

    public int count(int what) {
        if (what < 0 || what > 2) {
            return BAD;
        }
        if (what == 0) {
            return statesOfAll();
        }
        return what == 1 ? text.size() : saying.bits();
    }

    // ---- what the calls share

    private static boolean noPlan(int i) {
        return i < 0 || i >= PLANS;
    }

    private static boolean noLetter(int letter) {
        return letter < 0 || letter >= LETTERS;
    }

    private boolean noState(int i, int s) {
        return noPlan(i) || s < 0 || s >= plans[i].size();
    }

    private boolean noArrow(int i, int s, int letter, int t) {
        return noState(i, s) || noLetter(letter) || noState(i, t);
    }

    private int statesOfAll() {
        int sum = 0;
        for (int i = 0; i < PLANS; i++) {
            sum += plans[i].size();
        }
        return sum;
    }

    private static boolean inSet(int set, int k) {
        return (set >> k & 1) != 0;
    }

    /** A plan: for every state and letter the set of states that arrows go to, as bits. */
    private static final class Plan {
        private int size = 1;
        private final int[] any = new int[MOST_STATES * LETTERS];
        // Always a part of any: an arrow that must be there stands in both.
        private final int[] must = new int[MOST_STATES * LETTERS];

        int size() {
            return size;
        }

        void reset(int newSize) {
            resize(newSize);
            Arrays.fill(any, 0);
            Arrays.fill(must, 0);
        }

        void resize(int newSize) {
            size = Math.max(1, Math.min(newSize, MOST_STATES));
        }

        void become(Plan other) {
            size = other.size;
            System.arraycopy(other.any, 0, any, 0, any.length);
            System.arraycopy(other.must, 0, must, 0, must.length);
        }

        int anyFrom(int s, int letter) {
            return isSpot(s, letter) ? any[s * LETTERS + letter] : 0;
        }

        int mustFrom(int s, int letter) {
            return isSpot(s, letter) ? must[s * LETTERS + letter] : 0;
        }

        int at(int s, int letter, int t) {
            if (inSet(mustFrom(s, letter), t)) {
                return 2;
            }
            return inSet(anyFrom(s, letter), t) ? 1 : 0;
        }

        void lay(int s, int letter, int t, int v) {
            if (isSpot(s, letter)) {
                any[s * LETTERS + letter] &= ~(1 << t);
                must[s * LETTERS + letter] &= ~(1 << t);
                raise(s, letter, t, v);
            }
        }

        /** The arrow becomes v where v is more than it was. */
        void raise(int s, int letter, int t, int v) {
            if (!isSpot(s, letter)) {
                return;
            }
            if (v >= 1) {
                any[s * LETTERS + letter] |= 1 << t;
            }
            if (v >= 2) {
                must[s * LETTERS + letter] |= 1 << t;
            }
        }

        /** No choice is left open: all of them come to be there, or none does. */
        void settle(boolean there) {
            for (int k = 0; k < MOST_STATES * LETTERS; k++) {
                if (there) {
                    must[k] = any[k];
                } else {
                    any[k] = must[k];
                }
            }
        }

        int musts() {
            return bitsOf(must);
        }

        int choices() {
            return bitsOf(any) - bitsOf(must);
        }

        private static int bitsOf(int[] sets) {
            int sum = 0;
            for (int set : sets) {
                sum += Integer.bitCount(set);
            }
            return sum;
        }

        private static boolean isSpot(int s, int letter) {
            return s >= 0 && s < MOST_STATES && letter >= 0 && letter < LETTERS;
        }
    }

    /** THE TEXT: its bytes, each 0 to 255. */
    private static final class Text {
        private final int[] bytes = new int[MOST_BYTES];
        private int size = 0;

        int size() {
            return size;
        }

        int drain() {
            int had = size;
            size = 0;
            return had;
        }

        boolean append(long v, int n) {
            if (n > MOST_BYTES - size) {
                return false;
            }
            for (int k = n - 1; k >= 0; k--) {
                bytes[size] = (int) (v >>> (8 * k)) & 255;
                size++;
            }
            return true;
        }

        /** The byte at a place, -1 where there is none. */
        int byteAt(int place) {
            return place >= 0 && place < size ? bytes[place] : -1;
        }

        boolean spells(int from, int end, String word) {
            if (end - from != word.length()) {
                return false;
            }
            for (int k = 0; k < word.length(); k++) {
                if (byteAt(from + k) != word.charAt(k)) {
                    return false;
                }
            }
            return true;
        }
    }

    /** The tokens of a text, one after the other; the last one is END, at the text's length. */
    private static final class Tokens {
        private final int[] kinds = new int[MOST_BYTES + 1];
        private final int[] places = new int[MOST_BYTES + 1];
        private final int[] worths = new int[MOST_BYTES + 1];
        private int size = 0;
        private int here = 0;

        void split(Text text) {
            size = 0;
            here = 0;
            int place = 0;
            for (int k = 0; k < MOST_BYTES && place < text.size(); k++) {
                place = text.byteAt(place) == ' ' ? place + 1 : cut(text, place);
            }
            keep(END, text.size(), 0);
        }

        int kind() {
            return here < size ? kinds[here] : END;
        }

        int place() {
            return here < size ? places[here] : 0;
        }

        void advance() {
            if (here < size - 1) {
                here++;
            }
        }

        /** Passes the token by if it is of this kind. */
        boolean take(int kind) {
            if (kind() != kind) {
                return false;
            }
            advance();
            return true;
        }

        /** Passes a number or a letter by and tells it; -1 where it is another token or out of bounds. */
        int takeWorth(int kind, int least, int most) {
            int worth = here < size ? worths[here] : 0;
            if (kind() != kind || worth < least || worth > most) {
                return -1;
            }
            advance();
            return worth;
        }

        /** Cuts the token that begins at a place: where it ends. */
        private int cut(Text text, int place) {
            int first = text.byteAt(place);
            if (isDigit(first)) {
                return cutNumber(text, place);
            }
            if (isWordLetter(first)) {
                return cutWord(text, place);
            }
            keep(SIGNS.indexOf((char) first) >= 0 ? first : WRONG, place, 0);
            return place + 1;
        }

        private int cutNumber(Text text, int place) {
            int number = 0;
            int end = place;
            while (end < MOST_BYTES && isDigit(text.byteAt(end))) {
                // Held at 100, which is too much already, so that long numbers can't wrap around.
                number = Math.min(number * 10 + text.byteAt(end) - '0', 100);
                end++;
            }
            boolean zeroAhead = end - place > 1 && text.byteAt(place) == '0';
            keep(number > 99 || zeroAhead ? WRONG : NUMBER, place, number);
            return end;
        }

        private int cutWord(Text text, int place) {
            int end = place;
            while (end < MOST_BYTES && isWordLetter(text.byteAt(end))) {
                end++;
            }
            int letter = text.byteAt(place) - 'a';
            if (end - place == 1 && letter < LETTERS) {
                keep(LETTER, place, letter);
            } else {
                keep(kindOfWord(text, place, end), place, 0);
            }
            return end;
        }

        private static int kindOfWord(Text text, int place, int end) {
            if (text.spells(place, end, "states")) {
                return WORD_STATES;
            }
            if (text.spells(place, end, "may")) {
                return WORD_MAY;
            }
            return text.spells(place, end, "must") ? WORD_MUST : WRONG;
        }

        private void keep(int kind, int place, int worth) {
            if (size <= MOST_BYTES) {
                kinds[size] = kind;
                places[size] = place;
                worths[size] = worth;
                size++;
            }
        }

        private static boolean isDigit(int b) {
            return b >= '0' && b <= '9';
        }

        private static boolean isWordLetter(int b) {
            return b >= 'a' && b <= 'z';
        }
    }

    /** Reads texts as plans and sayings; where a read method answers false, the next token is the faulty one. */
    private static final class Reader {
        private final Tokens tokens = new Tokens();

        /** How many items, or -10 less the fault. */
        int readPlan(Text text, Plan into) {
            tokens.split(text);
            if (!readHead(into)) {
                return FAULT_AT_0 - tokens.place();
            }
            int items = 0;
            while (items < MOST_BYTES && tokens.kind() != END) {
                if (!readItem(into)) {
                    return FAULT_AT_0 - tokens.place();
                }
                items++;
            }
            return items;
        }

        private boolean readHead(Plan into) {
            if (!tokens.take(WORD_STATES)) {
                return false;
            }
            int size = tokens.takeWorth(NUMBER, 1, MOST_STATES);
            if (size < 0 || !tokens.take(';')) {
                return false;
            }
            into.reset(size);
            return true;
        }

        private boolean readItem(Plan into) {
            int v = tokens.kind() == WORD_MUST ? 2 : 1;
            if (!tokens.take(WORD_MAY) && !tokens.take(WORD_MUST)) {
                return false;
            }
            int s = tokens.takeWorth(NUMBER, 0, into.size() - 1);
            if (s < 0) {
                return false;
            }
            int letter = tokens.takeWorth(LETTER, 0, LETTERS - 1);
            if (letter < 0) {
                return false;
            }
            int t = tokens.takeWorth(NUMBER, 0, into.size() - 1);
            if (t < 0 || !tokens.take(';')) {
                return false;
            }
            into.raise(s, letter, t, v);
            return true;
        }

        /** How many of 0 and 1, or -10 less the fault. */
        int readSaying(Text text, Saying into) {
            tokens.split(text);
            into.reset();
            if (!readBoths(into, 0) || tokens.kind() != END) {
                return FAULT_AT_0 - tokens.place();
            }
            return into.bits();
        }

        private boolean readBoths(Saying into, int open) {
            if (!readBoth(into, open)) {
                return false;
            }
            for (int k = 0; k < MOST_BYTES && tokens.take('|'); k++) {
                if (!readBoth(into, open)) {
                    return false;
                }
                into.add(STEP_OR);
            }
            return true;
        }

        private boolean readBoth(Saying into, int open) {
            if (!readUnit(into, open)) {
                return false;
            }
            for (int k = 0; k < MOST_BYTES && tokens.take('&'); k++) {
                if (!readUnit(into, open)) {
                    return false;
                }
                into.add(STEP_AND);
            }
            return true;
        }

        private boolean readUnit(Saying into, int open) {
            if (tokens.kind() == NUMBER) {
                return readBit(into);
            }
            if (open >= MOST_OPEN) {
                return false;
            }
            if (tokens.take('!')) {
                return readNot(into, open + 1);
            }
            if (tokens.take('(')) {
                return readBoths(into, open + 1) && tokens.take(')');
            }
            if (tokens.take('<')) {
                return readArrow(into, STEP_SOME, '>', open + 1);
            }
            return tokens.take('[') && readArrow(into, STEP_EACH, ']', open + 1);
        }

        private boolean readBit(Saying into) {
            if (into.bits() >= MOST_BITS) {
                return false;
            }
            int bit = tokens.takeWorth(NUMBER, 0, 1);
            if (bit < 0) {
                return false;
            }
            into.add(bit == 1 ? STEP_1 : STEP_0);
            return true;
        }

        private boolean readNot(Saying into, int open) {
            if (!readUnit(into, open)) {
                return false;
            }
            into.add(STEP_NOT);
            return true;
        }

        private boolean readArrow(Saying into, int step, int close, int open) {
            int letter = tokens.takeWorth(LETTER, 0, LETTERS - 1);
            if (letter < 0 || !tokens.take(close) || !readUnit(into, open)) {
                return false;
            }
            into.add(step + letter);
            return true;
        }
    }

    /**
     * A saying as a row of steps. The values of all states of a plan are one int: its low six bits
     * are the states with 1 at least, the next six those with 2. So | is the greater of two, & the lesser.
     */
    private static final class Saying {
        private final int[] steps = new int[MOST_BYTES];
        private int size = 0;
        private int bits = 0;
        private final int[] stack = new int[MOST_BITS];
        private int height = 0;

        Saying() {
            add(STEP_1);
        }

        int bits() {
            return bits;
        }

        void reset() {
            size = 0;
            bits = 0;
        }

        void become(Saying other) {
            size = other.size;
            bits = other.bits;
            System.arraycopy(other.steps, 0, steps, 0, steps.length);
        }

        void add(int step) {
            if (size < MOST_BYTES) {
                steps[size] = step;
                size++;
                bits += step == STEP_0 || step == STEP_1 ? 1 : 0;
            }
        }

        static int valueOf(int values, int s) {
            if (inSet(soOf(values), s)) {
                return 2;
            }
            return inSet(someOf(values), s) ? 1 : 0;
        }

        int valuesIn(Plan plan) {
            height = 0;
            for (int k = 0; k < size; k++) {
                push(valuesOf(steps[k], plan));
            }
            return pop();
        }

        private int valuesOf(int step, Plan plan) {
            if (step == STEP_0) {
                return valuesFrom(0, 0);
            }
            if (step == STEP_1) {
                return valuesFrom(ALL_STATES, ALL_STATES);
            }
            int last = pop();
            if (step == STEP_NOT) {
                return valuesFrom(~soOf(last), ~someOf(last));
            }
            if (step == STEP_AND) {
                return pop() & last;
            }
            if (step == STEP_OR) {
                return pop() | last;
            }
            return step < STEP_EACH
                ? overSome(step - STEP_SOME, last, plan)
                : overEach(step - STEP_EACH, last, plan);
        }

        private static int overSome(int letter, int values, Plan plan) {
            int some = 0;
            int so = 0;
            for (int s = 0; s < plan.size(); s++) {
                if ((plan.anyFrom(s, letter) & someOf(values)) != 0) {
                    some |= 1 << s;
                }
                if ((plan.mustFrom(s, letter) & soOf(values)) != 0) {
                    so |= 1 << s;
                }
            }
            return valuesFrom(some, so);
        }

        private static int overEach(int letter, int values, Plan plan) {
            int some = 0;
            int so = 0;
            for (int s = 0; s < plan.size(); s++) {
                if ((plan.mustFrom(s, letter) & ~someOf(values)) == 0) {
                    some |= 1 << s;
                }
                if ((plan.anyFrom(s, letter) & ~soOf(values)) == 0) {
                    so |= 1 << s;
                }
            }
            return valuesFrom(some, so);
        }

        private static int valuesFrom(int some, int so) {
            return some & ALL_STATES | (so & ALL_STATES) << MOST_STATES;
        }

        private static int someOf(int values) {
            return values & ALL_STATES;
        }

        private static int soOf(int values) {
            return values >> MOST_STATES & ALL_STATES;
        }

        private void push(int values) {
            if (height < MOST_BITS) {
                stack[height] = values;
                height++;
            }
        }

        private int pop() {
            if (height <= 0) {
                return 0;
            }
            height--;
            return stack[height];
        }
    }

    /** Pairs of a state of one plan and a state of another, seen from both sides. */
    private static final class Pairs {
        private final int[] ofLeft = new int[MOST_STATES];
        private final int[] ofRight = new int[MOST_STATES];

        void fill(int left, int right) {
            for (int k = 0; k < MOST_STATES; k++) {
                ofLeft[k] = k < left ? (1 << right) - 1 : 0;
                ofRight[k] = k < right ? (1 << left) - 1 : 0;
            }
        }

        boolean has(int s, int t) {
            return isPair(s, t) && inSet(ofLeft[s], t);
        }

        void drop(int s, int t) {
            if (isPair(s, t)) {
                ofLeft[s] &= ~(1 << t);
                ofRight[t] &= ~(1 << s);
            }
        }

        /** Whether one of these states on the left has a pair with none of those on the right. */
        boolean leftLacks(int left, int right) {
            return lacks(ofLeft, left, right);
        }

        boolean rightLacks(int right, int left) {
            return lacks(ofRight, right, left);
        }

        private static boolean lacks(int[] partners, int from, int among) {
            for (int k = 0; k < partners.length; k++) {
                if ((partners[k] & among) == 0 && (from >> k & 1) != 0) {
                    return true;
                }
            }
            return false;
        }

        private static boolean isPair(int s, int t) {
            return s >= 0 && s < MOST_STATES && t >= 0 && t < MOST_STATES;
        }
    }

    /** The rounds that tell whether one plan is stricter than another. */
    private static final class Rounds {
        private final Pairs pairs = new Pairs();
        private final int[] went = new int[MOST_STATES * MOST_STATES];
        private int whyLetter = NONE;
        private int whySide = 0;

        /** Whether the first plan is stricter than the second, or as strict. */
        boolean play(Plan p, Plan q) {
            pairs.fill(p.size(), q.size());
            Arrays.fill(went, 0);
            whyLetter = NONE;
            whySide = 0;
            boolean more = true;
            // In each round but the last one a pair goes, so there are no more rounds than this.
            for (int round = 1; more && round <= MOST_STATES * MOST_STATES + 1; round++) {
                more = playOne(p, q, round);
            }
            return pairs.has(0, 0);
        }

        int roundOf(int s, int t) {
            if (s < 0 || s >= MOST_STATES || t < 0 || t >= MOST_STATES) {
                return 0;
            }
            return went[s * MOST_STATES + t];
        }

        /** Whether two states of a plan that was played against itself are one. */
        boolean areOne(int s, int t) {
            return roundOf(s, t) == 0 && roundOf(t, s) == 0;
        }

        int whyLetter() {
            return whyLetter;
        }

        int whySide() {
            return whySide;
        }

        private boolean playOne(Plan p, Plan q, int round) {
            boolean any = false;
            for (int k = 0; k < went.length; k++) {
                int s = k / MOST_STATES;
                int t = k % MOST_STATES;
                if (pairs.has(s, t) && hasToGo(p, q, s, t)) {
                    went[k] = round;
                    any = true;
                }
            }
            dropThoseOf(round);
            return any;
        }

        /** Only after all were looked at, since those of a round go all at once. */
        private void dropThoseOf(int round) {
            for (int k = 0; k < went.length; k++) {
                if (went[k] == round) {
                    pairs.drop(k / MOST_STATES, k % MOST_STATES);
                }
            }
        }

        private boolean hasToGo(Plan p, Plan q, int s, int t) {
            for (int letter = 0; letter < LETTERS; letter++) {
                int side = sideOf(p, q, s, t, letter);
                if (side != 0) {
                    if (s == 0 && t == 0) {
                        whyLetter = letter;
                        whySide = side;
                    }
                    return true;
                }
            }
            return false;
        }

        private int sideOf(Plan p, Plan q, int s, int t, int letter) {
            if (pairs.leftLacks(p.anyFrom(s, letter), q.anyFrom(t, letter))) {
                return 1;
            }
            return pairs.rightLacks(q.mustFrom(t, letter), p.mustFrom(s, letter)) ? 2 : 0;
        }
    }

    /** Makes a plan small. */
    private static final class Shrinker {
        // For each state the least one of those that are one with it.
        private final int[] least = new int[MOST_STATES];

        /** The rounds are those of the plan against itself. */
        void shrink(Plan plan, Rounds rounds, Plan into) {
            findLeast(plan, rounds);
            int reached = reachedIn(plan);
            into.reset(Integer.bitCount(reached));
            for (int s = 0; s < plan.size(); s++) {
                if (inSet(reached, s)) {
                    carryArrows(plan, s, reached, into);
                }
            }
        }

        private void findLeast(Plan plan, Rounds rounds) {
            for (int s = 0; s < MOST_STATES; s++) {
                least[s] = s;
                for (int t = s - 1; t >= 0; t--) {
                    if (s < plan.size() && rounds.areOne(s, t)) {
                        least[s] = t;
                    }
                }
            }
        }

        private int reachedIn(Plan plan) {
            int reached = 1;
            for (int turn = 0; turn < MOST_STATES; turn++) {
                for (int s = 0; s < plan.size(); s++) {
                    if (inSet(reached, s)) {
                        reached |= nextOf(plan, s);
                    }
                }
            }
            return reached;
        }

        private int nextOf(Plan plan, int s) {
            int next = 0;
            for (int letter = 0; letter < LETTERS; letter++) {
                int targets = plan.anyFrom(s, letter);
                for (int t = 0; t < MOST_STATES; t++) {
                    if (inSet(targets, t)) {
                        next |= 1 << least[t];
                    }
                }
            }
            return next;
        }

        private void carryArrows(Plan plan, int s, int reached, Plan into) {
            for (int letter = 0; letter < LETTERS; letter++) {
                for (int t = 0; t < MOST_STATES; t++) {
                    into.raise(rankIn(reached, s), letter, rankIn(reached, least[t]), plan.at(s, letter, t));
                }
            }
        }

        private static int rankIn(int set, int s) {
            return Integer.bitCount(set & (1 << s) - 1);
        }
    }

    /** Makes one plan of two, whose states are pairs. */
    private static final class Joiner {
        private final Pairs pairs = new Pairs();
        private final int[] numbers = new int[MOST_STATES * MOST_STATES];
        private final int[] order = new int[MOST_STATES];
        private int size = 0;

        /** How many states; STATE where the first pair clashes, FULL where they are too many. */
        int combine(Plan p, Plan q, boolean atOnce, Plan into) {
            pairs.fill(p.size(), q.size());
            if (atOnce) {
                dropClashes(p, q);
            }
            if (!pairs.has(0, 0)) {
                return STATE;
            }
            size = 0;
            Arrays.fill(numbers, -1);
            numberOf(0, 0);
            into.reset(MOST_STATES);
            for (int from = 0; from < MOST_STATES && from < size; from++) {
                if (!spread(p, q, atOnce, from, into)) {
                    return FULL;
                }
            }
            into.resize(size);
            return size;
        }

        private void dropClashes(Plan p, Plan q) {
            boolean more = true;
            for (int turn = 0; more && turn <= MOST_STATES * MOST_STATES; turn++) {
                more = dropSome(p, q);
            }
        }

        private boolean dropSome(Plan p, Plan q) {
            boolean any = false;
            for (int s = 0; s < p.size(); s++) {
                for (int t = 0; t < q.size(); t++) {
                    if (pairs.has(s, t) && clashes(p, q, s, t)) {
                        pairs.drop(s, t);
                        any = true;
                    }
                }
            }
            return any;
        }

        private boolean clashes(Plan p, Plan q, int s, int t) {
            for (int letter = 0; letter < LETTERS; letter++) {
                if (pairs.leftLacks(p.mustFrom(s, letter), q.anyFrom(t, letter))
                    || pairs.rightLacks(q.mustFrom(t, letter), p.anyFrom(s, letter))) {
                    return true;
                }
            }
            return false;
        }

        /** Lays all arrows from a pair that has a number; false where a seventh pair is come to. */
        private boolean spread(Plan p, Plan q, boolean atOnce, int from, Plan into) {
            for (int letter = 0; letter < LETTERS; letter++) {
                for (int k = 0; k < MOST_STATES * MOST_STATES; k++) {
                    int s = k / MOST_STATES;
                    int t = k % MOST_STATES;
                    int v = arrowOf(p.at(order[from] / MOST_STATES, letter, s),
                        q.at(order[from] % MOST_STATES, letter, t), atOnce);
                    if (v > 0 && pairs.has(s, t)) {
                        int to = numberOf(s, t);
                        if (to < 0) {
                            return false;
                        }
                        into.raise(from, letter, to, v);
                    }
                }
            }
            return true;
        }

        private static int arrowOf(int one, int other, boolean atOnce) {
            int lesser = Math.min(one, other);
            return atOnce && lesser > 0 ? Math.max(one, other) : lesser;
        }

        /** The number of a pair, a new one if it has none yet; -1 if there is no room for it. */
        private int numberOf(int s, int t) {
            int k = s * MOST_STATES + t;
            if (k < 0 || k >= numbers.length) {
                return -1;
            }
            if (numbers[k] < 0 && size < MOST_STATES) {
                numbers[k] = size;
                order[size] = k;
                size++;
            }
            return numbers[k];
        }
    }

    /** THE WALK, in a copy of its plan. */
    private static final class Walker {
        private final Plan ground = new Plan();
        private int where = 1;
        private int gone = 0;

        int restart(Plan plan) {
            int had = gone;
            ground.become(plan);
            where = 1;
            gone = 0;
            return had;
        }

        int where() {
            return where;
        }

        int gone() {
            return gone;
        }

        int step(int letter) {
            int next = nextBy(letter);
            if (next == 0) {
                return STATE;
            }
            if (gone >= MOST_GONE) {
                return FULL;
            }
            where = next;
            gone++;
            return Integer.bitCount(where);
        }

        int mayCome() {
            int set = 0;
            for (int letter = 0; letter < LETTERS; letter++) {
                if (nextBy(letter) != 0) {
                    set |= 1 << letter;
                }
            }
            return set;
        }

        int mustBeThere() {
            int set = 0;
            for (int letter = 0; letter < LETTERS; letter++) {
                if (isInAll(letter)) {
                    set |= 1 << letter;
                }
            }
            return set;
        }

        private int nextBy(int letter) {
            int next = 0;
            for (int s = 0; s < MOST_STATES; s++) {
                if (inSet(where, s)) {
                    next |= ground.anyFrom(s, letter);
                }
            }
            return next;
        }

        private boolean isInAll(int letter) {
            for (int s = 0; s < MOST_STATES; s++) {
                if (inSet(where, s) && ground.mustFrom(s, letter) == 0) {
                    return false;
                }
            }
            return true;
        }
    }
}
