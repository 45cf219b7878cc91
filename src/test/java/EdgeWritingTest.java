import java.util.function.IntFunction;

/** The edges of writing behaviours: how many, how long, over which locals; begin, end, drop, holds. */
public final class EdgeWritingTest extends Script {
    private static final Check CHECK = new Check("EdgeWritingTest");
    private static final int MIN = Integer.MIN_VALUE;
    private static final int MAX = Integer.MAX_VALUE;

    public static void main(String[] args) {
        Sentences.runAll(EdgeWritingTest.class, CHECK);
    }

    private static void holds(String when, CountedActors m, int... want) {
        for (int x = 0; x < 6; x++) {
            CHECK.due(when + ": holds(" + x + ")", m.holds(x), want[x]);
        }
    }

    @Sentence("BEHAVIOURS (at most 6, with the numbers 0, 1, .. in the order of their beginnings) are written first; ")
    private static void sixBehaviours() {
        for (int there = 0; there <= 6; there++) {
            CountedActors m = new CountedActors(1);
            for (int b = 0; b < there; b++) {
                CHECK.due("begin, number " + b, m.begin(b % 2 == 0 ? ISO : VAL), b);
                CHECK.due("end, number " + b, m.end(), true);
            }
            CHECK.due("begin(5) with " + there, m.begin(TAG), there < 6 ? there : -1);
            CHECK.due("holds(0) behind it", m.holds(0), there < 6 ? TAG : -1);
            CHECK.due("end() behind it", m.end(), there < 6);
            for (int b : numbers(-1, 0, there, there + 1, 5, 6, 7)) {
                CHECK.due("post(0, " + b + ")", m.post(0, b), b >= 0 && b <= Math.min(there, 5));
            }
        }
    }

    @Sentence("any actor may run them.")
    private static void anyActorRunsThem() {
        for (int n = 1; n <= 4; n++) {
            CountedActors m = new CountedActors(n);
            int b = behaviour(m, TAG, make(1, REF), put(THIS, 2, 1));
            for (int a = 0; a < n; a++) {
                call(m, a, b);
                CHECK.due("owner(" + a + ")", m.owner(a), a);
                CHECK.due("field(" + a + ", 2)", m.field(a, 2), a);
            }
        }
    }

    /** Each statement shows something, so that none of those that were accepted is left out. */
    @Sentence("A behaviour has a parameter with a sendable capability and at most 10 statements over the LOCALS 0 .. 5.")
    private static void tenStatements() {
        for (int tried : numbers(8, 9, 10, 11, 12)) {
            CountedActors m = writing(TAG, make(5, REF));
            for (int i = 1; i < tried; i++) {
                CHECK.due("statement number " + (i + 1), add(m, i == 1 ? grow(5, 3) : show(5)), i < 10 ? 0 : 2);
            }
            CHECK.due("end() behind " + tried, m.end(), true);
            call(m, 0, 0);
            CHECK.due("shown(-1) behind " + tried, m.shown(-1), Math.min(tried, 10) - 2);
        }
    }

    @Sentence("While it is written (it is OPEN then), each local is EMPTY or has a capability: "
        + "at first local 0 has that of the parameter, the others are empty.")
    private static void atFirst() {
        for (int k : numbers(ISO, VAL, TAG)) {
            holds("begun with " + k, writing(k), k, -1, -1, -1, -1, -1);
        }
        CountedActors m = writing(ISO, make(1, REF), make(5, BOX), open());
        m.drop();
        m.begin(VAL);
        holds("begun behind a drop in a block", m, VAL, -1, -1, -1, -1, -1);
        m.end();
        m.begin(TAG);
        holds("begun behind an end", m, TAG, -1, -1, -1, -1, -1);
    }

    @Sentence("When it runs, a local that has a capability holds an object or NONE.")
    private static void localsHoldAnObjectOrNone() {
        CountedActors m = ran(make(1, REF), put(THIS, TAG, 1), put(THIS, 2, 1), put(THIS, TAG, 0));
        CHECK.due("field(0, 2): local 1 held an object", m.field(0, 2), 0);
        CHECK.due("field(0, 5): local 0 held NONE", m.field(0, 5), -1);
    }

    /** Local 1 had another capability and held object 0 before; object 1 is what it comes to hold. */
    @Sentence("A local BECOMES something: it has the capability that is said, and holds what is said, "
        + "whatever it had or held before.")
    private static void becoming() {
        for (int had = ISO; had <= TAG; had++) {
            int[][] ways = {make(1, VAL), copy(1, 2), move(1, 2), get(1, 3, VAL), swap(1, 3, VAL, 2), shut(1, 2)};
            for (int[] way : ways) {
                CountedActors m = new CountedActors(1);
                m.begin(TAG);
                addAll(m, make(1, had));
                if (way[0] != NEW) {
                    addAll(m, make(2, VAL), make(3, REF), put(3, VAL, 2));
                }
                if (way[0] == SHUT) {
                    addAll(m, open());
                }
                addAll(m, way);
                CHECK.due(named(way) + ": holds(1), which was " + had, m.holds(1), VAL);
                addAll(m, put(THIS, VAL, 1));
                m.end();
                call(m, 0, 0);
                CHECK.due(named(way) + ": what it holds", m.field(0, VAL), 1);
            }
        }
        CountedActors m = ran(make(1, REF), put(THIS, TAG, 1), move(1, 0), put(THIS, TAG, 1));
        CHECK.due("field(0, 5): a local that held an object comes to hold NONE", m.field(0, TAG), -1);
    }

    @Sentence("It is EMPTIED: it is empty from then on.")
    private static void emptying() {
        for (int c = ISO; c <= TAG; c++) {
            int[][] ways = {move(2, 1), swap(2, THIS, TAG, 1), send(0, 0, 1), shut(2, 1)};
            for (int[] way : ways) {
                CountedActors m = writing(TAG);
                if (way[0] == SHUT) {
                    addAll(m, open());
                }
                addAll(m, make(1, c));
                CHECK.due("holds(1) before " + named(way), m.holds(1), c);
                addAll(m, way);
                CHECK.due("holds(1) behind " + named(way), m.holds(1), -1);
                CHECK.due("COPY of it", add(m, copy(3, 1)), 6);
                addAll(m, make(3, REF));
                CHECK.due("MOVE of it, later", add(m, move(4, 1)), 6);
                addAll(m, make(1, BOX));
                CHECK.due("holds(1) once it became something", m.holds(1), BOX);
            }
        }
    }

    /** Six locals of capability REF, made in a block for SHUT. */
    private static CountedActors allRef(boolean inBlock) {
        CountedActors m = writing(TAG);
        if (inBlock) {
            addAll(m, open());
        }
        for (int x = 0; x < 6; x++) {
            addAll(m, make(x, REF));
        }
        return m;
    }

    /** From low to high there is one, and beyond either end there is none. */
    private static void operand(String what, IntFunction<int[]> statement, int low, int high) {
        for (int number : numbers(MIN, low - 2, low - 1, low, low + 1, high - 1, high, high + 1, high + 2, MAX)) {
            int[] s = statement.apply(number);
            int want = number >= low && number <= high ? 0 : 3;
            CHECK.due(what + ": " + named(s), add(allRef(s[0] == SHUT), s), want);
        }
    }

    @Sentence({"THE STATEMENTS, with what they use: x, y, z are locals, ",
        "3 There is no such statement, or a local, field, capability, distance or behaviour that it uses is none."})
    private static void theOperands() {
        operand("NEW x", n -> make(n, REF), 0, 5);
        operand("NEW f", n -> make(1, n), 0, 5);
        operand("COPY x", n -> copy(n, 1), 0, 5);
        operand("COPY y", n -> copy(1, n), 0, 5);
        operand("MOVE x", n -> move(n, 1), 0, 5);
        operand("MOVE y", n -> move(1, n), 0, 5);
        operand("GET x", n -> get(n, 1, 0), 0, 5);
        operand("GET f", n -> get(1, 1, n), 0, 5);
        operand("PUT z", n -> put(1, REF, n), 0, 5);
        operand("SWAP x", n -> swap(n, 1, REF, 2), 0, 5);
        operand("ADD y", n -> grow(n, 1), 0, 5);
        operand("SHOW y", n -> show(n), 0, 5);
        operand("SEND x", n -> send(n, 0, 1), 0, 3);
        operand("SEND y", n -> send(0, n, 1), 0, 0);
        operand("SEND z", n -> send(0, 0, n), 0, 5);
        operand("SHUT x", n -> shut(n, 1), 0, 5);
        operand("SHUT y", n -> shut(1, n), 0, 5);
        for (int z : numbers(MIN, -1, 0, 4, 5, 6, 7, MAX)) {
            int want = z >= 0 && z <= 5 ? 0 : 3;
            CHECK.due("SWAP z = " + z, add(allRef(false), swap(1, THIS, REF, z)), want);
        }
        for (int op : numbers(MIN, -2, -1, 11, 12, MAX)) {
            CHECK.due("statement " + op, add(allRef(false), numbers(op, 0, 0, 0, 0)), 3);
        }
        for (int op : numbers(0, 10)) {
            CHECK.due("statement " + op, add(allRef(true), numbers(op, 0, 0, 0, 0)), 0);
        }
    }

    @Sentence("y may be THIS (the number 6: the acting actor with its fields, of capability REF) in 3, 4, 5; ")
    private static void yMayBeThis() {
        operand("GET y", n -> get(1, n, 0), 0, 6);
        operand("PUT y", n -> put(n, REF, 1), 0, 6);
        for (int y : numbers(MIN, -1, 0, 4, 6, 7, MAX)) {
            CHECK.due("SWAP y = " + y, add(allRef(false), swap(1, y, REF, 5)), y >= 0 && y <= 6 ? 0 : 3);
        }
        int[][] others = {copy(1, THIS), move(1, THIS), grow(THIS, 1), show(THIS), copy(THIS, 1), put(1, REF, THIS)};
        for (int[] s : others) {
            CHECK.due("THIS in " + named(s), add(allRef(false), s), 3);
        }
        CHECK.due("THIS in SHUT", add(allRef(true), shut(1, THIS)), 3);
        CountedActors m = new CountedActors(2);
        int keep = behaviour(m, TAG, make(1, REF), put(THIS, REF, 1), get(2, THIS, REF), grow(2, 4));
        call(m, 1, keep);
        CHECK.due("field(1, 2) of the acting actor", m.field(1, 2), 0);
        CHECK.due("field(0, 2) of the other", m.field(0, 2), -1);
        CHECK.due("cell(0): what was read from THIS", m.cell(0), 4);
        for (int c = ISO; c <= TAG; c++) {
            CHECK.due("SWAP of " + c + " into THIS: all are safe", add(writing(TAG, make(1, c)), swap(2, THIS, TAG, 1)), 0);
        }
    }

    @Sentence("f is 0 .. 5.")
    private static void fieldsOfStatements() {
        for (int f : numbers(MIN, -2, -1, 0, 1, 2, 3, 4, 5, 6, 7, MAX)) {
            boolean is = f >= 0 && f <= 5;
            CHECK.due("GET f = " + f, add(allRef(false), get(1, 2, f)), is ? 0 : 3);
            CHECK.due("GET from THIS f = " + f, add(allRef(false), get(1, THIS, f)), is ? 0 : 3);
            CHECK.due("SWAP f = " + f, add(writing(ISO, make(1, REF)), swap(2, 1, f, 0)), is ? 0 : 3);
            boolean fits = f == REF || f == BOX || f == TAG;
            CHECK.due("PUT f = " + f, add(allRef(false), put(1, f, 2)), fits ? 0 : is ? 9 : 3);
        }
    }

    @Sentence("What a statement does not use is not looked at.")
    private static void theUnused() {
        for (int odd : numbers(MIN, -1, 0, 5, 6, 7, 11, MAX)) {
            CHECK.due("NEW", add(allRef(false), numbers(NEW, 1, odd, REF, odd)), 0);
            CHECK.due("COPY", add(allRef(false), numbers(COPY, 1, 2, odd, odd)), 0);
            CHECK.due("MOVE", add(allRef(false), numbers(MOVE, 1, 2, odd, odd)), 0);
            CHECK.due("GET", add(allRef(false), numbers(GET, 1, 2, REF, odd)), 0);
            CHECK.due("PUT", add(allRef(false), numbers(PUT, odd, 1, REF, 2)), 0);
            CHECK.due("ADD", add(allRef(false), numbers(ADD, odd, 1, odd, odd)), 0);
            CHECK.due("SHOW", add(allRef(false), numbers(SHOW, odd, 1, odd, odd)), 0);
            CHECK.due("SEND", add(allRef(false), numbers(SEND, 1, 0, odd, 2)), 0);
            CHECK.due("OPEN", add(allRef(false), numbers(OPEN, odd, odd, odd, odd)), 0);
            CHECK.due("SHUT", add(allRef(true), numbers(SHUT, 1, 2, odd, odd)), 0);
        }
        // In a block, with empty locals and hidden ones, the unused could be taken for these.
        for (int odd = 0; odd < 7; odd++) {
            CountedActors m = writing(VAL, make(1, REF), make(2, TRN), open());
            CHECK.due("NEW in a block", add(m, numbers(NEW, 4, odd, REF, odd)), 0);
            CHECK.due("COPY in a block", add(m, numbers(COPY, 3, 0, odd, odd)), 0);
            CHECK.due("SHOW in a block", add(m, numbers(SHOW, odd, 0, odd, odd)), 0);
            CHECK.due("ADD in a block", add(m, numbers(ADD, odd, 4, odd, odd)), 0);
        }
        for (int y = 0; y < 2; y++) {
            CountedActors m = new CountedActors(1);
            behaviour(m, TAG);
            m.begin(ISO);
            addAll(m, make(y, REF), open(), make(3, ISO));
            CHECK.due("SEND to the behaviour with the number of a hidden local", add(m, send(0, y, 3)), 0);
        }
    }

    @Sentence("`int begin(int k)`: Begins a behaviour whose parameter has capability k; its number.")
    private static void beginning() {
        CountedActors m = new CountedActors(1);
        int[] parameters = {TAG, VAL, ISO, ISO, VAL, TAG};
        for (int b = 0; b < 6; b++) {
            CHECK.due("begin(" + parameters[b] + ")", m.begin(parameters[b]), b);
            CHECK.due("holds(0)", m.holds(0), parameters[b]);
            m.end();
        }
    }

    @Sentence("-1 if one is open, six are there, or k is none of 0, 3, 5.")
    private static void beginningRefused() {
        for (int k : numbers(MIN, -3, -1, 0, 1, 2, 3, 4, 5, 6, 7, 8, 32, 35, 37, MAX)) {
            boolean is = k == 0 || k == 3 || k == 5;
            CHECK.due("begin(" + k + ")", new CountedActors(1).begin(k), is ? 0 : -1);
            CHECK.due("begin(" + k + ") with one open", writing(TAG).begin(k), -1);
            CHECK.due("begin(" + k + ") with one open in a block", writing(TAG, open()).begin(k), -1);
            for (int there : numbers(5, 6)) {
                CountedActors m = new CountedActors(1);
                for (int b = 0; b < there; b++) {
                    behaviour(m, TAG);
                }
                CHECK.due("begin(" + k + ") with " + there, m.begin(k), there == 5 && is ? 5 : -1);
            }
        }
        CountedActors m = new CountedActors(1);
        for (int b = 0; b < 5; b++) {
            behaviour(m, TAG);
        }
        m.begin(TAG);
        CHECK.due("begin(5) with the sixth open", m.begin(TAG), -1);
        m.drop();
        CHECK.due("begin(5) with the sixth dropped", m.begin(TAG), 5);
    }

    @Sentence("`boolean end()`: The open behaviour is finished; false if none is open or it is in a block.")
    private static void ending() {
        CountedActors m = new CountedActors(1);
        CHECK.due("end() with none begun", m.end(), false);
        m.begin(VAL);
        CHECK.due("post(0, 0) before it is finished", m.post(0, 0), false);
        CHECK.due("end()", m.end(), true);
        CHECK.due("post(0, 0) of the finished one", m.post(0, 0), true);
        CHECK.due("end() with none open", m.end(), false);
        CHECK.due("add with none open", add(m, make(1, REF)), 1);
        m.begin(VAL);
        addAll(m, make(1, REF));
        m.drop();
        CHECK.due("end() with the open one dropped", m.end(), false);
        m.begin(VAL);
        addAll(m, open());
        CHECK.due("end() in a block", m.end(), false);
        CHECK.due("end() in a block again", m.end(), false);
        addAll(m, shut(1, 0));
        CHECK.due("end() behind the block", m.end(), true);
    }

    @Sentence("(It may have no statements; refused it stays open.)")
    private static void endingAnEmptyOne() {
        CountedActors m = new CountedActors(1);
        m.begin(ISO);
        CHECK.due("end() without statements", m.end(), true);
        CHECK.due("post(0, 0)", m.post(0, 0), true);
        CHECK.due("step(0)", m.step(0), 0);
        m.begin(ISO);
        addAll(m, make(1, REF), open(), make(2, BOX));
        CHECK.due("end() in a block", m.end(), false);
        holds("it stays open", m, ISO, -2, BOX, -1, -1, -1);
        CHECK.due("begin(0) while it stays open", m.begin(ISO), -1);
        CHECK.due("post(0, 1) while it stays open", m.post(0, 1), false);
        CHECK.due("SHUT while it stays open", add(m, shut(3, 2)), 0);
        CHECK.due("end()", m.end(), true);
        call(m, 0, 1);
        CHECK.due("owner(1): its statements are there", m.owner(1), 0);
    }

    /** A block that is never shut can only be given up when the ten statements are used up. */
    @Sentence("`boolean drop()`: The open behaviour is given up, as if it had not been begun; false if none is open.")
    private static void dropping() {
        CountedActors m = new CountedActors(1);
        CHECK.due("drop() with none begun", m.drop(), false);
        behaviour(m, TAG);
        CHECK.due("drop() of a finished one", m.drop(), false);
        m.begin(TAG);
        CHECK.due("drop() without statements", m.drop(), true);
        CHECK.due("drop() with none open", m.drop(), false);
        m.begin(ISO);
        addAll(m, open(), make(1, REF), make(1, REF), make(1, REF), make(1, REF), make(1, REF), make(1, REF),
            make(1, REF), make(1, REF), make(1, REF));
        CHECK.due("SHUT as the eleventh", add(m, shut(1, 1)), 2);
        CHECK.due("end() in the block", m.end(), false);
        CHECK.due("drop() in the block", m.drop(), true);
        holds("dropped", m, -1, -1, -1, -1, -1, -1);
        CHECK.due("add behind it", add(m, make(1, REF)), 1);
        CHECK.due("post(0, 1) behind it", m.post(0, 1), false);
        CHECK.due("post(0, 0) behind it", m.post(0, 0), true);
        CHECK.due("end() behind it", m.end(), false);
        CHECK.due("begin(3) behind it", m.begin(VAL), 1);
        holds("begun again", m, VAL, -1, -1, -1, -1, -1);
        CHECK.due("SHUT: there is no block", add(m, shut(1, 0)), 4);
        CHECK.due("GET from THIS: it is not hidden", add(m, get(1, THIS, 0)), 0);
        m.end();
        m.step(0);
        call(m, 0, 1);
        CHECK.due("owner(0): none of the dropped statements is left", m.owner(0), -1);
        for (int x = 0; x < 6; x++) {
            m.begin(TAG);
            addAll(m, make(x, REF), open(), make(x, REF));
            m.drop();
            m.begin(ISO);
            addAll(m, open(), make(5, REF), shut(4, 5));
            holds("a local that became something in the block of the dropped one", m, ISO, -1, -1, -1, ISO, -1);
            m.drop();
        }
    }

    @Sentence("(Its number is that of the next one.)")
    private static void theNumberOfTheDropped() {
        for (int there = 0; there < 6; there++) {
            CountedActors m = new CountedActors(1);
            for (int b = 0; b < there; b++) {
                behaviour(m, TAG);
            }
            for (int times = 0; times < 8; times++) {
                CHECK.due("begin(0) with " + there, m.begin(ISO), there);
                CHECK.due("SEND to it while it is open", add(m, send(0, there, 0)), 0);
                CHECK.due("drop() with " + there, m.drop(), true);
            }
            CHECK.due("begin(3) behind them", m.begin(VAL), there);
            CHECK.due("SEND to the next number", add(m, send(0, there + 1, 0)), 3);
            CHECK.due("end() of it", m.end(), true);
            CHECK.due("post(0, " + there + ")", m.post(0, there), true);
        }
    }

    @Sentence("`int holds(int x)`: The capability of local x behind the last statement of the open behaviour; "
        + "-2 if it is hidden; -1 if it is empty, x is not 0 .. 5, or no behaviour is open.")
    private static void holding() {
        CountedActors m = new CountedActors(1);
        holds("none begun", m, -1, -1, -1, -1, -1, -1);
        m.begin(VAL);
        addAll(m, make(1, ISO), make(2, TRN), make(3, REF), make(4, BOX), make(5, TAG));
        holds("written", m, VAL, ISO, TRN, REF, BOX, TAG);
        addAll(m, open());
        holds("in a block", m, VAL, ISO, -2, -2, -2, TAG);
        for (int x : numbers(MIN, -7, -2, -1, 6, 7, MAX)) {
            CHECK.due("holds(" + x + ")", m.holds(x), -1);
        }
        addAll(m, move(3, 1), shut(4, 0));
        holds("behind the block", m, -1, -1, TRN, -1, VAL, TAG);
        CHECK.due("end()", m.end(), true);
        holds("none open", m, -1, -1, -1, -1, -1, -1);
        m.begin(TAG);
        holds("the next one", m, TAG, -1, -1, -1, -1, -1);
        CHECK.due("drop()", m.drop(), true);
        holds("dropped", m, -1, -1, -1, -1, -1, -1);
    }
}
