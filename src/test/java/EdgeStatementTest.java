/** The edges of statements as they run: locals named twice, NONE, cells that wrap, numbers that run out. */
public final class EdgeStatementTest extends Script {
    private static final Check CHECK = new Check("EdgeStatementTest");
    private static final int MIN = Integer.MIN_VALUE;
    private static final int MAX = Integer.MAX_VALUE;

    public static void main(String[] args) {
        Sentences.runAll(EdgeStatementTest.class, CHECK);
    }

    @Sentence("0 NEW x f x becomes a new object, with capability f.")
    private static void newObjects() {
        for (int x = 0; x < 6; x++) {
            for (int f = ISO; f <= TAG; f++) {
                CountedActors m = writing(TAG, make(x, f));
                CHECK.due("holds(" + x + ")", m.holds(x), f);
                addAll(m, swap((x + 1) % 6, THIS, TAG, x));
                m.end();
                call(m, 1, 0);
                CHECK.due("field(1, 5): the new object", m.field(1, TAG), 0);
                CHECK.due("owner(0)", m.owner(0), 1);
            }
        }
        CountedActors m = ran(make(1, REF), make(1, REF), put(THIS, TAG, 1));
        CHECK.due("field(0, 5): the second in the same local", m.field(0, TAG), 1);
        CHECK.due("owner(0): the first is there still", m.owner(0), 0);
    }

    @Sentence("1 COPY x y x becomes what y holds, with the alias of y's capability.")
    private static void copies() {
        int[] alias = {TAG, BOX, REF, VAL, BOX, TAG};
        for (int c = ISO; c <= TAG; c++) {
            CountedActors m = writing(TAG, make(1, c), copy(1, 1));
            CHECK.due("holds(1) behind COPY 1 1 of " + c, m.holds(1), alias[c]);
            m = writing(TAG, make(1, c), copy(5, 1));
            CHECK.due("holds(1): y keeps " + c, m.holds(1), c);
            CHECK.due("holds(5)", m.holds(5), alias[c]);
            m = ran(make(1, c), copy(1, 1), copy(2, 1), put(THIS, TAG, 2));
            CHECK.due("field(0, 5): x holds what y holds", m.field(0, TAG), 0);
        }
        CountedActors m = ran(make(1, REF), copy(1, 0), put(THIS, TAG, 1));
        CHECK.due("field(0, 5): a copy of NONE", m.field(0, TAG), -1);
    }

    @Sentence("2 MOVE x y y is emptied; then x becomes what y held, with the capability that y had.")
    private static void moves() {
        for (int c = ISO; c <= TAG; c++) {
            CountedActors m = writing(TAG, make(1, c), move(1, 1));
            CHECK.due("holds(1) behind MOVE 1 1 of " + c, m.holds(1), c);
            m = writing(TAG, make(1, c), make(5, REF), move(5, 1));
            CHECK.due("holds(1) behind MOVE 5 1 of " + c, m.holds(1), -1);
            CHECK.due("holds(5) behind MOVE 5 1 of " + c, m.holds(5), c);
            m = ran(make(1, c), move(1, 1), move(0, 1), swap(2, THIS, TAG, 0));
            CHECK.due("field(0, 5): x holds what y held", m.field(0, TAG), 0);
        }
    }

    @Sentence("3 GET x y f y must be readable. x becomes what field f of y holds, "
        + "with the alias of the view of f from y's capability.")
    private static void gets() {
        for (int f = ISO; f <= TAG; f++) {
            CountedActors m = ran(make(1, REF), make(2, ISO), swap(3, 1, f, 2), put(THIS, REF, 1), get(1, 1, f),
                put(THIS, TAG, 1));
            CHECK.due("field(0, 5): GET 1 1 of field " + f, m.field(0, TAG), 1);
            CHECK.due("inner(0, " + f + "): it is held still", m.inner(0, f), 1);
            m = ran(make(2, ISO), swap(3, THIS, f, 2), make(1, REF), get(4, THIS, f), put(1, TAG, 4), put(THIS, REF, 1));
            CHECK.due("inner(1, 5): GET of field " + f + " of THIS", m.inner(1, TAG), 0);
        }
        CountedActors m = ran(make(1, REF), make(2, REF), get(2, 1, 0), put(THIS, TAG, 2));
        CHECK.due("field(0, 5): GET of a field that holds NONE", m.field(0, TAG), -1);
    }

    @Sentence({"4 PUT y f z y must be writable. Field f of y now holds what z holds.",
        "The SOURCE is the alias of z's capability."})
    private static void puts() {
        CountedActors m = writing(TAG, make(1, REF), make(2, ISO), put(1, TAG, 2));
        CHECK.due("holds(2): z is not emptied", m.holds(2), ISO);
        CHECK.due("PUT of an ISO into ISO: the source is TAG", add(m, put(1, ISO, 2)), 9);
        CHECK.due("PUT of an ISO into BOX: the source is TAG", add(m, put(1, BOX, 2)), 9);
        m = ran(make(1, REF), make(2, REF), put(1, BOX, 2), put(THIS, REF, 1), put(1, BOX, 1));
        CHECK.due("inner(0, 4): the object put into itself, over another", m.inner(0, BOX), 0);
        m = ran(make(1, REF), make(2, REF), put(THIS, REF, 1), put(THIS, REF, 2), put(THIS, TAG, 0));
        CHECK.due("field(0, 2): the last that was put", m.field(0, REF), 1);
    }

    @Sentence("5 SWAP x y f z y must be writable. z is emptied, field f of y now holds what z held; "
        + "then x becomes what field f of y held before, with what is drawn out of f from the capability that y had. "
        + "The source is the capability that z had.")
    private static void swaps() {
        // Object 0 is y's and holds object 1, object 2 is z's; x is y, z, or another.
        for (int x : numbers(1, 3, 4)) {
            CountedActors m = new CountedActors(1);
            call(m, 0, behaviour(m, TAG, make(1, REF), make(2, REF), put(1, REF, 2), put(THIS, REF, 1), make(3, ISO),
                swap(x, 1, REF, 3), put(THIS, BOX, x)));
            CHECK.due("inner(0, 2) with x = " + x, m.inner(0, REF), 2);
            CHECK.due("field(0, 4) with x = " + x, m.field(0, BOX), 1);
        }
        int[] drawn = {VAL, VAL, TRN};
        for (int y = ISO; y <= REF; y++) {
            CountedActors m = writing(ISO, make(1, y), swap(1, 1, TRN, 0));
            CHECK.due("holds(1) with x = y: drawn from the " + y + " that it had", m.holds(1), drawn[y]);
            CHECK.due("holds(0): z is emptied", m.holds(0), -1);
            m = writing(ISO, make(1, y), swap(0, 1, TRN, 0));
            CHECK.due("holds(0) with x = z", m.holds(0), drawn[y]);
            CHECK.due("holds(1): y keeps " + y, m.holds(1), y);
        }
        CountedActors m = ran(make(1, REF), copy(2, 1), put(THIS, REF, 1), swap(3, 1, REF, 2), put(THIS, TAG, 3));
        CHECK.due("inner(0, 2): y and z held the same", m.inner(0, REF), 0);
        CHECK.due("field(0, 5): the field held NONE before", m.field(0, TAG), -1);
        m = ran(make(1, ISO), make(2, ISO), swap(3, THIS, ISO, 1), swap(3, THIS, ISO, 2), swap(4, THIS, TRN, 3));
        CHECK.due("field(0, 0) of THIS", m.field(0, ISO), 1);
        CHECK.due("field(0, 1): drawn out of THIS", m.field(0, TRN), 0);
    }

    @Sentence("6 ADD y z y must be writable. The cell of y grows by the number z (any int; it wraps).")
    private static void cellsWrap() {
        int[][] sums = {{0, 0}, {MAX, 0}, {MAX - 1, 1}, {MAX, 1}, {MAX, 2}, {MAX, MAX}, {MIN, 0}, {MIN + 1, -1}, {MIN, -1},
            {MIN, -2}, {MIN, MIN}, {MAX, MIN}, {-1, 1}, {1, -1}, {5, -77}};
        for (int[] s : sums) {
            CountedActors m = ran(make(1, REF), grow(1, s[0]), grow(1, s[1]));
            CHECK.due("cell(0) of " + s[0] + " and " + s[1], m.cell(0), s[0] + s[1]);
        }
        CountedActors m = ran(make(1, REF), copy(2, 1), grow(1, 3), grow(2, 4), make(3, ISO), grow(3, 9));
        CHECK.due("cell(0) grows by both", m.cell(0), 7);
        CHECK.due("cell(1)", m.cell(1), 9);
    }

    @Sentence("7 SHOW y y must be readable. Its cell is shown.")
    private static void shows() {
        for (int c = ISO; c <= BOX; c++) {
            CountedActors m = ran(make(1, c), show(1));
            CHECK.due("shown(-1)", m.shown(-1), 1);
            CHECK.due("shown(0): a cell of 0 is shown too", m.shown(0), 0);
        }
        CountedActors m = ran(make(1, REF), grow(1, MIN), show(1), grow(1, -1), show(1), grow(1, 1), show(1));
        int[] want = {MIN, MAX, MIN};
        for (int k = 0; k < 3; k++) {
            CHECK.due("shown(" + k + ")", m.shown(k), want[k]);
        }
        CHECK.due("shown(-1)", m.shown(-1), 3);
    }

    @Sentence("With NONE: GET from NONE gives NONE.")
    private static void getFromNone() {
        for (int f = 0; f < 6; f++) {
            CountedActors m = new CountedActors(1);
            int[] view = {TAG, TAG, TAG, VAL, TAG, TAG};
            int keep = behaviour(m, TAG, make(1, VAL), put(THIS, VAL, 1), put(THIS, TAG, 1));
            int none = behaviour(m, ISO, get(1, THIS, VAL), get(1, 0, f), put(THIS, TAG, 1));
            call(m, 0, keep);
            CHECK.due("field(0, 5) before", m.field(0, TAG), 0);
            call(m, 0, none);
            CHECK.due("field(0, 5): GET of field " + f + " from NONE", m.field(0, TAG), -1);
            CHECK.due("field(0, 3) stays", m.field(0, VAL), 0);
            CHECK.due("holds(1) has its capability all the same", writing(ISO, get(1, 0, f)).holds(1), view[f]);
            call(m, 0, keep);
            call(m, 0, behaviour(m, VAL, get(0, 0, f), put(THIS, TAG, 0)));
            CHECK.due("field(0, 5): GET 0 0 of field " + f + " from NONE", m.field(0, TAG), -1);
        }
    }

    @Sentence("PUT and ADD to NONE and SHOW of NONE do nothing.")
    private static void putAddShowWithNone() {
        CountedActors m = new CountedActors(1);
        call(m, 0, behaviour(m, TAG, make(1, REF), put(THIS, REF, 1), grow(1, 5), show(1)));
        call(m, 0, behaviour(m, ISO, get(1, THIS, REF), make(2, ISO), put(0, TAG, 2), grow(0, 9), show(0), show(1),
            put(THIS, TAG, 2)));
        CHECK.due("cell(0)", m.cell(0), 5);
        CHECK.due("cell(1)", m.cell(1), 0);
        CHECK.due("shown(-1): NONE was not shown", m.shown(-1), 2);
        CHECK.due("shown(0): the behaviour went on", m.shown(0), 5);
        CHECK.due("field(0, 5): z of PUT kept what it held", m.field(0, TAG), 1);
        for (int o = 0; o < 2; o++) {
            for (int k = 0; k < 6; k++) {
                CHECK.due("inner(" + o + ", " + k + ")", m.inner(o, k), -1);
            }
        }
        CHECK.due("field(0, 0)", m.field(0, ISO), -1);
        CHECK.due("lost()", m.lost(), 0);
    }

    @Sentence("SWAP with y holding NONE: z is emptied, x becomes NONE.")
    private static void swapWithNone() {
        // Local 0 holds NONE; x is another local that held an object, y, or z.
        for (int x : numbers(0, 1, 2)) {
            CountedActors m = new CountedActors(1);
            m.begin(ISO);
            addAll(m, make(1, REF), make(2, ISO), swap(x, 0, ISO, 2));
            CHECK.due("holds(2) with x = " + x, m.holds(2), x == 2 ? ISO : -1);
            CHECK.due("holds(" + x + ")", m.holds(x), ISO);
            addAll(m, make(3, ISO), swap(4, THIS, ISO, 3), swap(4, THIS, ISO, x), put(THIS, TAG, 4));
            m.end();
            call(m, 0, 0);
            CHECK.due("field(0, 0) with x = " + x + ": NONE took the place of object 2", m.field(0, ISO), -1);
            CHECK.due("field(0, 5): object 2 came out", m.field(0, TAG), 2);
            CHECK.due("garbage(): what z held is stored nowhere", m.garbage(), 2);
        }
    }

    @Sentence("NONE may be stored and sent like an object.")
    private static void noneIsStoredAndSent() {
        CountedActors m = new CountedActors(2);
        int keep = behaviour(m, ISO, swap(1, THIS, ISO, 0));
        call(m, 0, behaviour(m, TAG, make(1, ISO), swap(2, THIS, ISO, 1), make(3, REF), put(THIS, REF, 3), put(3, BOX, 3)));
        int passOn = behaviour(m, ISO, send(1, keep, 0));
        int store = behaviour(m, VAL, get(1, THIS, REF), put(1, BOX, 0), put(THIS, VAL, 0));
        call(m, 1, passOn);
        CHECK.due("waiting(0): a call with NONE", m.waiting(0), 1);
        CHECK.due("field(0, 0) before", m.field(0, ISO), 0);
        CHECK.due("step(0)", m.step(0), 0);
        CHECK.due("field(0, 0): NONE stored by SWAP", m.field(0, ISO), -1);
        CHECK.due("inner(1, 4) before", m.inner(1, BOX), 1);
        call(m, 0, store);
        CHECK.due("inner(1, 4): NONE stored by PUT", m.inner(1, BOX), -1);
        CHECK.due("waiting(0): NONE needs no raise", m.waiting(0), 0);
        CHECK.due("waiting(1)", m.waiting(1), 0);
        CHECK.due("lost()", m.lost(), 0);
        for (int o = 0; o < 2; o++) {
            CHECK.due("count(0, " + o + ")", m.count(0, o), 0);
        }
    }

    /** So many objects, of one actor, that nothing holds. */
    private static CountedActors withObjects(int objects) {
        CountedActors m = new CountedActors(2);
        int one = behaviour(m, TAG, make(1, REF), grow(1, 3), put(1, TAG, 1));
        for (int o = 0; o < objects; o++) {
            call(m, 0, one);
        }
        return m;
    }

    @Sentence("NEW gives the object the least number that no object has, the acting actor as owner, cell 0, "
        + "fields that hold NONE.")
    private static void theLeastNumber() {
        CountedActors m = withObjects(4);
        call(m, 1, behaviour(m, TAG, make(1, REF), put(THIS, REF, 1)));
        CHECK.due("owner(4)", m.owner(4), 1);
        CHECK.due("collect(0)", m.collect(0), 4);
        int three = behaviour(m, TAG, make(1, REF), make(2, REF), make(3, REF), put(THIS, REF, 2));
        call(m, 1, three);
        for (int o : numbers(0, 1, 2)) {
            CHECK.due("owner(" + o + ") of a number used again", m.owner(o), 1);
            CHECK.due("cell(" + o + ")", m.cell(o), 0);
            for (int k = 0; k < 6; k++) {
                CHECK.due("inner(" + o + ", " + k + ")", m.inner(o, k), -1);
            }
        }
        CHECK.due("owner(3)", m.owner(3), -1);
        CHECK.due("collect(1): all but the one in the middle", m.collect(1), 3);
        call(m, 0, three);
        int[] owners = {0, 1, 0, 0, -1};
        for (int o = 0; o < 5; o++) {
            CHECK.due("owner(" + o + ") where holes were filled", m.owner(o), owners[o]);
        }
        for (int k = 0; k < 6; k++) {
            nothingIsLeftOfTheOneBefore(k);
        }
    }

    /** Object 1, which the actor knows by TAG, was in field k of object 0, which is freed. */
    private static void nothingIsLeftOfTheOneBefore(int k) {
        CountedActors m = ran(make(1, REF), grow(1, 8), make(2, ISO), put(THIS, TAG, 2), swap(4, 1, k, 2));
        CHECK.due("inner(0, " + k + ")", m.inner(0, k), 1);
        CHECK.due("collect(0)", m.collect(0), 1);
        CHECK.due("owner(0)", m.owner(0), -1);
        CHECK.due("owner(1)", m.owner(1), 0);
        call(m, 0, behaviour(m, TAG, make(1, REF)));
        CHECK.due("owner(0), the number used again", m.owner(0), 0);
        CHECK.due("cell(0), the number used again", m.cell(0), 0);
        for (int j = 0; j < 6; j++) {
            CHECK.due("inner(0, " + j + "), the number used again", m.inner(0, j), -1);
        }
        // The fields of the one with the next number are its own.
        m = ran(make(1, REF), make(2, REF), make(3, ISO), swap(4, 2, ISO, 3), put(THIS, REF, 2));
        CHECK.due("collect(0)", m.collect(0), 1);
        call(m, 0, behaviour(m, TAG, make(1, REF)));
        CHECK.due("owner(0), the number used again", m.owner(0), 0);
        CHECK.due("inner(1, 0) of the next", m.inner(1, ISO), 2);
    }

    @Sentence("When there are 16 objects, the local becomes NONE instead; that is LOST too.")
    private static void sixteenObjects() {
        for (int there : numbers(14, 15, 16)) {
            CountedActors m = withObjects(there);
            call(m, 1, behaviour(m, VAL, make(1, REF), put(THIS, REF, 1), make(1, REF), put(THIS, BOX, 1), show(1)));
            CHECK.due("lost() with " + there, m.lost(), there - 14);
            CHECK.due("field(1, 2) with " + there, m.field(1, REF), there < 16 ? there : -1);
            CHECK.due("field(1, 4) with " + there, m.field(1, BOX), there < 15 ? there + 1 : -1);
            CHECK.due("shown(-1) with " + there, m.shown(-1), there < 15 ? 1 : 0);
            CHECK.due("owner(15) with " + there, m.owner(15), there == 16 ? 0 : 1);
        }
        CountedActors m = withObjects(16);
        int again = behaviour(m, TAG, make(1, REF), put(THIS, REF, 1), make(1, REF), put(THIS, REF, 1));
        call(m, 1, again);
        CHECK.due("field(1, 2): the local that held NONE holds NONE", m.field(1, REF), -1);
        CHECK.due("lost()", m.lost(), 2);
        CHECK.due("collect(0)", m.collect(0), 16);
        call(m, 1, again);
        CHECK.due("field(1, 2) with room again", m.field(1, REF), 1);
        CHECK.due("lost() with room again", m.lost(), 2);
    }

    @Sentence("then the statements are done in their order, local 0 holding what the parameter holds.")
    private static void inTheirOrder() {
        CountedActors m = new CountedActors(2);
        int show = behaviour(m, VAL, show(0), make(0, REF), grow(0, 8), show(0), make(1, REF), grow(1, 9), show(1));
        call(m, 0, behaviour(m, TAG, make(1, ISO), grow(1, 7), send(1, show, 1)));
        CHECK.due("step(1)", m.step(1), 0);
        for (int k = 0; k < 3; k++) {
            CHECK.due("shown(" + k + ")", m.shown(k), 9 - k);
        }
        m.post(1, show);
        CHECK.due("step(1) of a posted call", m.step(1), 0);
        CHECK.due("shown(-1): the parameter held NONE", m.shown(-1), 5);
    }
}
