/** The edges of the numbers of actors, objects, fields and capabilities, and the tables of capabilities. */
public final class EdgeNumbersTest extends Script {
    private static final Check CHECK = new Check("EdgeNumbersTest");
    private static final int MIN = Integer.MIN_VALUE;
    private static final int MAX = Integer.MAX_VALUE;
    private static final int[] ALIAS = {TAG, BOX, REF, VAL, BOX, TAG};
    private static final int[][] VIEW = {
        {ISO, TAG, TAG, VAL, TAG, TAG}, {ISO, BOX, BOX, VAL, BOX, TAG}, {ISO, TRN, REF, VAL, BOX, TAG},
        {VAL, VAL, VAL, VAL, VAL, TAG}, {TAG, BOX, BOX, VAL, BOX, TAG}
    };
    private static final int[][] DRAWN = {
        {ISO, VAL, TAG, VAL, TAG, TAG}, {ISO, VAL, BOX, VAL, BOX, TAG}, {ISO, TRN, REF, VAL, BOX, TAG}
    };
    /** What rights answers for an object that is seen by each capability. */
    private static final int[] RIGHTS = {7, 7, 7, 3, 3, 1};

    public static void main(String[] args) {
        Sentences.runAll(EdgeNumbersTest.class, CHECK);
    }

    @Sentence("`CountedActors(int n)`: n actors (1 if n is below 1, 4 if it is above 4), all fields NONE; "
        + "no objects, behaviours or messages.")
    private static void fromOneToFourActors() {
        int[] asked = {MIN, -1, 0, 1, 2, 3, 4, 5, 6, MAX};
        int[] given = {1, 1, 1, 1, 2, 3, 4, 4, 4, 4};
        for (int i = 0; i < asked.length; i++) {
            CountedActors m = new CountedActors(asked[i]);
            for (int a = 0; a < 6; a++) {
                CHECK.due("waiting(" + a + ") of " + asked[i], m.waiting(a), a < given[i] ? 0 : -1);
                for (int k = 0; k < 6; k++) {
                    CHECK.due("field(" + a + ", " + k + ") of " + asked[i], m.field(a, k), -1);
                }
            }
            for (int o = 0; o < 16; o++) {
                CHECK.due("owner(" + o + ") of " + asked[i], m.owner(o), -1);
            }
            CHECK.due("post(0, 0) of " + asked[i] + ": no behaviour", m.post(0, 0), false);
            CHECK.due("step(0) of " + asked[i] + ": no message", m.step(0), -1);
            CHECK.due("begin(5) of " + asked[i], m.begin(5), 0);
        }
    }

    /** Actor n - 1 holds object 0; actor a, if it is one, takes a call. */
    @Sentence("ACTORS have the numbers 0 .. n - 1, ")
    private static void actors() {
        for (int n = 1; n <= 4; n++) {
            for (int a : numbers(MIN, -n, -1, 0, n - 1, n, n + 1, 4, 5, MAX)) {
                CountedActors m = new CountedActors(n);
                int idle = behaviour(m, TAG);
                call(m, n - 1, behaviour(m, TAG, make(1, REF), put(THIS, 2, 1)));
                boolean is = a >= 0 && a < n;
                String of = a + " of " + n;
                CHECK.due("waiting of " + of, m.waiting(a), is ? 0 : -1);
                CHECK.due("post to " + of, m.post(a, idle), is);
                CHECK.due("waiting of " + of, m.waiting(a), is ? 1 : -1);
                CHECK.due("step of " + of, m.step(a), is ? 0 : -1);
                CHECK.due("collect of " + of, m.collect(a), is ? 0 : -1);
                CHECK.due("count of " + of, m.count(a, 0), is ? 0 : -1);
                CHECK.due("field 2 of " + of, m.field(a, 2), a == n - 1 ? 0 : -1);
                CHECK.due("rights of " + of, m.rights(a, 0), a == n - 1 ? 7 : 0);
            }
        }
    }

    /** Each new object holds the one before it, and the actor holds the last. */
    private static CountedActors chainOf(int objects) {
        CountedActors m = new CountedActors(1);
        int next = behaviour(m, TAG, get(2, THIS, 2), make(1, REF), grow(1, 7), put(1, 2, 2), put(THIS, 2, 1));
        for (int i = 0; i < objects; i++) {
            call(m, 0, next);
        }
        return m;
    }

    @Sentence("OBJECTS 0 .. 15.")
    private static void objects() {
        for (int made : numbers(15, 16)) {
            CountedActors m = chainOf(made);
            for (int o : numbers(MIN, -2, -1, 0, 1, 14, 15, 16, 17, MAX)) {
                boolean is = o >= 0 && o < made;
                CHECK.due("owner(" + o + ") of " + made, m.owner(o), is ? 0 : -1);
                CHECK.due("cell(" + o + ") of " + made, m.cell(o), is ? 7 : 0);
                CHECK.due("count(0, " + o + ") of " + made, m.count(0, o), is ? 0 : -1);
                CHECK.due("inner(" + o + ", 2) of " + made, m.inner(o, 2), is ? o - 1 : -1);
                CHECK.due("rights(0, " + o + ") of " + made, m.rights(0, o), is ? 7 : 0);
            }
        }
    }

    /** Neighbours hold something just beyond the edge, so that a step too far would be seen. */
    @Sentence("An object has an owner (the actor that made it), a cell (an int) and six FIELDS 0 .. 5; "
        + "an actor has six fields 0 .. 5 too.")
    private static void sixFields() {
        CountedActors m = new CountedActors(2);
        int last = behaviour(m, TAG, make(1, ISO), swap(2, THIS, 5, 1));
        int first = behaviour(m, TAG, make(1, ISO), swap(2, THIS, 0, 1));
        call(m, 0, last);
        call(m, 1, first);
        call(m, 1, behaviour(m, TAG, make(1, REF), make(2, REF), make(3, ISO), make(4, ISO), swap(5, 1, 5, 3),
            swap(5, 2, 0, 4), grow(2, 9)));
        for (int k : numbers(MIN, -6, -1, 0, 1, 4, 5, 6, 7, 11, MAX)) {
            CHECK.due("field(0, " + k + ")", m.field(0, k), k == 5 ? 0 : -1);
            CHECK.due("field(1, " + k + ")", m.field(1, k), k == 0 ? 1 : -1);
            CHECK.due("inner(2, " + k + ")", m.inner(2, k), k == 5 ? 4 : -1);
            CHECK.due("inner(3, " + k + ")", m.inner(3, k), k == 0 ? 5 : -1);
        }
        int[] owners = {0, 1, 1, 1, 1, 1};
        for (int o = 0; o < 6; o++) {
            CHECK.due("owner(" + o + ")", m.owner(o), owners[o]);
            CHECK.due("cell(" + o + ")", m.cell(o), o == 3 ? 9 : 0);
        }
    }

    @Sentence("A field holds one object, or NONE.")
    private static void aFieldHoldsOne() {
        CountedActors m = new CountedActors(1);
        int object = behaviour(m, TAG, make(1, REF), put(THIS, 5, 1));
        int none = behaviour(m, TAG, put(THIS, 5, 0));
        CHECK.due("field(0, 5) at first", m.field(0, 5), -1);
        call(m, 0, object);
        CHECK.due("field(0, 5) with the one", m.field(0, 5), 0);
        call(m, 0, object);
        CHECK.due("field(0, 5) with the other", m.field(0, 5), 1);
        CHECK.due("garbage(): the one is not held any more", m.garbage(), 1);
        call(m, 0, none);
        CHECK.due("field(0, 5) with NONE", m.field(0, 5), -1);
    }

    @Sentence("Field k holds it by capability k.")
    private static void fieldsHoldByTheirNumber() {
        for (int k = 0; k < 6; k++) {
            CountedActors m = ran(make(1, ISO), make(2, ISO), swap(3, 1, ISO, 2), swap(3, THIS, k, 1));
            CHECK.due("rights(0, 0) by field " + k, m.rights(0, 0), RIGHTS[k]);
            CHECK.due("garbage() by field " + k, m.garbage(), k == TAG ? 1 : 0);
        }
    }

    @Sentence("CAPABILITIES: 0 ISO, 1 TRN, 2 REF, 3 VAL, 4 BOX, 5 TAG.")
    private static void sixCapabilities() {
        for (int c : numbers(MIN, -2, -1, 0, 1, 2, 3, 4, 5, 6, 7, MAX)) {
            boolean is = c >= 0 && c <= 5;
            CountedActors m = writing(TAG);
            CHECK.due("NEW with " + c, add(m, make(1, c)), is ? 0 : 3);
            CHECK.due("holds(1) behind NEW with " + c, m.holds(1), is ? c : -1);
        }
    }

    @Sentence("All but TAG are READABLE; ")
    private static void readable() {
        for (int c = ISO; c <= TAG; c++) {
            CHECK.due("SHOW of " + c, add(writing(TAG, make(1, c)), show(1)), c == TAG ? 7 : 0);
            CHECK.due("GET from " + c, add(writing(TAG, make(1, c)), get(2, 1, 0)), c == TAG ? 7 : 0);
            CountedActors m = ran(make(1, ISO), swap(2, THIS, c, 1));
            CHECK.due("rights(0, 0) by " + c + ", the readable part", m.rights(0, 0) & 2, c == TAG ? 0 : 2);
        }
    }

    @Sentence("ISO, TRN and REF are WRITABLE; ")
    private static void writable() {
        for (int c = ISO; c <= TAG; c++) {
            int want = c <= REF ? 0 : 7;
            CHECK.due("ADD to " + c, add(writing(TAG, make(1, c)), grow(1, 1)), want);
            CHECK.due("PUT to " + c, add(writing(TAG, make(1, c)), put(1, TAG, 0)), want);
            CHECK.due("SWAP with " + c, add(writing(TAG, make(1, c)), swap(2, 1, TAG, 0)), want);
            CountedActors m = ran(make(1, ISO), swap(2, THIS, c, 1));
            CHECK.due("rights(0, 0) by " + c + ", the writable part", m.rights(0, 0) & 4, c <= REF ? 4 : 0);
        }
    }

    @Sentence("ISO, VAL and TAG are SENDABLE.")
    private static void sendable() {
        for (int c = ISO; c <= TAG; c++) {
            boolean is = c == ISO || c == VAL || c == TAG;
            CHECK.due("begin(" + c + ")", new CountedActors(1).begin(c), is ? 0 : -1);
            CHECK.due("holds(1) in a block, " + c, writing(TAG, make(1, c), open()).holds(1), is ? c : -2);
            CountedActors m = writing(TAG, make(1, ISO), make(2, c));
            CHECK.due("SWAP of " + c + " into an ISO", add(m, swap(3, 1, TAG, 2)), is ? 0 : 8);
        }
    }

    @Sentence("The ALIAS of ISO is TAG, that of TRN is BOX, that of any other is itself.")
    private static void aliases() {
        for (int c = ISO; c <= TAG; c++) {
            CHECK.due("COPY of " + c, writing(TAG, make(1, c), copy(2, 1)).holds(2), ALIAS[c]);
            CHECK.due("GET of field " + c + " of THIS", writing(TAG, get(2, THIS, c)).holds(2), ALIAS[c]);
            for (int f = ISO; f <= TAG; f++) {
                int put = add(writing(TAG, make(1, c)), put(THIS, f, 1));
                int swap = add(writing(TAG, make(1, ALIAS[c])), swap(2, THIS, f, 1));
                CHECK.due("PUT of " + c + " into " + f + ", as SWAP of its alias", put, swap);
            }
        }
    }

    @Sentence("A capability FITS these: ISO all six; TRN all but ISO; REF: REF, BOX, TAG; VAL: VAL, BOX, TAG; "
        + "BOX: BOX, TAG; TAG: TAG.")
    private static void fits() {
        String[] fits = {"012345", "12345", "245", "345", "45", "5"};
        for (int c = ISO; c <= TAG; c++) {
            for (int f = ISO; f <= TAG; f++) {
                int want = fits[c].indexOf('0' + f) >= 0 ? 0 : 9;
                CHECK.due("SWAP of " + c + " into " + f, add(writing(TAG, make(1, c)), swap(2, THIS, f, 1)), want);
                if (f == ISO || f == VAL || f == TAG) {
                    CHECK.due("SEND of " + c + " as " + f, add(writing(f, make(1, c)), send(0, 0, 1)), want);
                }
            }
        }
    }

    /** What is read has the alias of the view; what the actor may do tells views of one alias apart. */
    @Sentence({"The VIEW of the fields 0, 1, 2, 3, 4, 5 from a capability:", "from ISO: ISO TAG TAG VAL TAG TAG",
        "from TRN: ISO BOX BOX VAL BOX TAG", "from REF: ISO TRN REF VAL BOX TAG", "from VAL: VAL VAL VAL VAL VAL TAG",
        "from BOX: TAG BOX BOX VAL BOX TAG", "(none from TAG)"})
    private static void views() {
        for (int c = ISO; c <= TAG; c++) {
            for (int k = 0; k < 6; k++) {
                String way = "field " + k + " from " + c;
                CountedActors read = writing(TAG, make(1, c));
                CHECK.due("GET of " + way, add(read, get(2, 1, k)), c == TAG ? 7 : 0);
                CHECK.due("holds(2) behind GET of " + way, read.holds(2), c == TAG ? -1 : ALIAS[VIEW[c][k]]);
                CountedActors m = ran(make(1, ISO), make(2, ISO), swap(3, 1, k, 2), swap(3, THIS, c, 1));
                CHECK.due("rights(0, 1), " + way, m.rights(0, 1), c == TAG ? 0 : RIGHTS[VIEW[c][k]]);
            }
        }
    }

    @Sentence({"What is DRAWN out of the fields 0, 1, 2, 3, 4, 5 from a capability:", "from ISO: ISO VAL TAG VAL TAG TAG",
        "from TRN: ISO VAL BOX VAL BOX TAG", "from REF: ISO TRN REF VAL BOX TAG"})
    private static void drawn() {
        for (int c = ISO; c <= TAG; c++) {
            for (int k = 0; k < 6; k++) {
                CountedActors m = writing(TAG, make(1, c), make(2, ISO));
                CHECK.due("SWAP of field " + k + " of " + c, add(m, swap(3, 1, k, 2)), c <= REF ? 0 : 7);
                CHECK.due("holds(3) behind SWAP of field " + k + " of " + c, m.holds(3), c <= REF ? DRAWN[c][k] : -1);
            }
        }
    }
}
