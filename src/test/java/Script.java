/** Short ways to write behaviours and to run them; a test may extend it to have the names at hand. */
abstract class Script {
    static final int ISO = 0;
    static final int TRN = 1;
    static final int REF = 2;
    static final int VAL = 3;
    static final int BOX = 4;
    static final int TAG = 5;
    static final int THIS = 6;
    static final int NONE = -1;

    static final int NEW = 0;
    static final int COPY = 1;
    static final int MOVE = 2;
    static final int GET = 3;
    static final int PUT = 4;
    static final int SWAP = 5;
    static final int ADD = 6;
    static final int SHOW = 7;
    static final int SEND = 8;
    static final int OPEN = 9;
    static final int SHUT = 10;

    static final int CALL = 0;
    static final int RAISE = 1;
    static final int LOWER = 2;

    /** Stands where a statement uses nothing, since what it does not use is not looked at. */
    private static final int UNUSED = -77;

    static int[] numbers(int... numbers) {
        return numbers;
    }

    static int[] make(int x, int f) {
        return new int[] {NEW, x, UNUSED, f, UNUSED};
    }

    static int[] copy(int x, int y) {
        return new int[] {COPY, x, y, UNUSED, UNUSED};
    }

    static int[] move(int x, int y) {
        return new int[] {MOVE, x, y, UNUSED, UNUSED};
    }

    static int[] get(int x, int y, int f) {
        return new int[] {GET, x, y, f, UNUSED};
    }

    static int[] put(int y, int f, int z) {
        return new int[] {PUT, UNUSED, y, f, z};
    }

    static int[] swap(int x, int y, int f, int z) {
        return new int[] {SWAP, x, y, f, z};
    }

    static int[] grow(int y, int z) {
        return new int[] {ADD, UNUSED, y, UNUSED, z};
    }

    static int[] show(int y) {
        return new int[] {SHOW, UNUSED, y, UNUSED, UNUSED};
    }

    static int[] send(int x, int y, int z) {
        return new int[] {SEND, x, y, UNUSED, z};
    }

    static int[] open() {
        return new int[] {OPEN, UNUSED, UNUSED, UNUSED, UNUSED};
    }

    static int[] shut(int x, int y) {
        return new int[] {SHUT, x, y, UNUSED, UNUSED};
    }

    static int add(CountedActors m, int[] s) {
        return m.add(s[0], s[1], s[2], s[3], s[4]);
    }

    /** Adds the statements, all of which have to be accepted. */
    static void addAll(CountedActors m, int[]... statements) {
        for (int[] s : statements) {
            int answer = add(m, s);
            if (answer != 0) {
                throw new IllegalStateException("refused: " + java.util.Arrays.toString(s) + " for " + answer);
            }
        }
    }

    /** Begins, writes and ends a behaviour; its number. */
    static int behaviour(CountedActors m, int parameter, int[]... statements) {
        int number = m.begin(parameter);
        addAll(m, statements);
        if (number < 0 || !m.end()) {
            throw new IllegalStateException("no behaviour: " + number);
        }
        return number;
    }

    /** A new machine with an open behaviour that has these statements. */
    static CountedActors writing(int parameter, int[]... statements) {
        CountedActors m = new CountedActors(2);
        m.begin(parameter);
        addAll(m, statements);
        return m;
    }

    /** Posts a call to an actor whose queue is empty, and lets it be taken. */
    static void call(CountedActors m, int a, int b) {
        if (m.waiting(a) != 0 || !m.post(a, b) || m.step(a) != CALL) {
            throw new IllegalStateException("not called: " + b + " by " + a);
        }
    }

    /** A machine of one actor that has run one behaviour with these statements, its parameter NONE as a TAG. */
    static CountedActors ran(int[]... statements) {
        CountedActors m = new CountedActors(1);
        call(m, 0, behaviour(m, TAG, statements));
        return m;
    }

    static void postTimes(CountedActors m, int times, int a, int b) {
        for (int i = 0; i < times; i++) {
            if (!m.post(a, b)) {
                throw new IllegalStateException("not posted: " + b + " to " + a);
            }
        }
    }

    static void stepTimes(CountedActors m, int times, int a) {
        for (int i = 0; i < times; i++) {
            if (m.step(a) < 0) {
                throw new IllegalStateException("nothing to take for " + a);
            }
        }
    }

    /** A statement as a call, for what is printed. */
    static String named(int[] s) {
        return "add(" + s[0] + ", " + s[1] + ", " + s[2] + ", " + s[3] + ", " + s[4] + ")";
    }
}
