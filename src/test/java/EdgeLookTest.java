/** The edges of what is asked about objects: owner, cell, count, field, inner, rights, shown. */
public final class EdgeLookTest extends Script {
    private static final Check CHECK = new Check("EdgeLookTest");
    private static final int MIN = Integer.MIN_VALUE;
    private static final int MAX = Integer.MAX_VALUE;
    /** What rights answers for an object that is seen by each capability. */
    private static final int[] RIGHTS = {7, 7, 7, 3, 3, 1};
    private static final int[][] VIEW = {
        {ISO, TAG, TAG, VAL, TAG, TAG}, {ISO, BOX, BOX, VAL, BOX, TAG}, {ISO, TRN, REF, VAL, BOX, TAG},
        {VAL, VAL, VAL, VAL, VAL, TAG}, {TAG, BOX, BOX, VAL, BOX, TAG}
    };

    public static void main(String[] args) {
        Sentences.runAll(EdgeLookTest.class, CHECK);
    }

    /** Of 3 actors each in turn makes an object, with a cell of -5, that holds itself in field 2; actor 1's is freed. */
    private static CountedActors oneOfThreeFreed() {
        CountedActors m = new CountedActors(3);
        int make = behaviour(m, TAG, make(1, REF), grow(1, -5), put(1, REF, 1), put(THIS, REF, 1));
        int forget = behaviour(m, ISO, swap(1, THIS, REF, 0));
        for (int a = 0; a < 3; a++) {
            call(m, a, make);
        }
        call(m, 1, forget);
        m.collect(1);
        return m;
    }

    @Sentence("`int owner(int o)`: The owner of object o; -1 if there is no such object.")
    private static void owners() {
        CountedActors m = oneOfThreeFreed();
        int[] asked = {MIN, -1, 0, 1, 2, 3, 15, 16, MAX};
        int[] want = {-1, -1, 0, -1, 2, -1, -1, -1, -1};
        for (int i = 0; i < asked.length; i++) {
            CHECK.due("owner(" + asked[i] + ")", m.owner(asked[i]), want[i]);
        }
    }

    @Sentence("`int cell(int o)`: The cell of object o; 0 if there is no such object.")
    private static void cells() {
        CountedActors m = oneOfThreeFreed();
        int[] asked = {MIN, -1, 0, 1, 2, 3, 15, 16, MAX};
        int[] want = {0, 0, -5, 0, -5, 0, 0, 0, 0};
        for (int i = 0; i < asked.length; i++) {
            CHECK.due("cell(" + asked[i] + ")", m.cell(asked[i]), want[i]);
        }
    }

    @Sentence("`int count(int a, int o)`: The count of actor a for object o; -1 if there is no such actor or object.")
    private static void counts() {
        CountedActors m = oneOfThreeFreed();
        int know = behaviour(m, TAG, put(THIS, TAG, 0));
        call(m, 2, behaviour(m, TAG, get(1, THIS, REF), send(1, know, 1)));
        m.step(0);
        for (int a : numbers(MIN, -1, 0, 1, 2, 3, 4, MAX)) {
            for (int o : numbers(MIN, -1, 0, 1, 2, 3, 15, 16, MAX)) {
                boolean are = a >= 0 && a < 3 && (o == 0 || o == 2);
                CHECK.due("count(" + a + ", " + o + ")", m.count(a, o), !are ? -1 : o == 2 && a != 1 ? 1 : 0);
            }
        }
    }

    @Sentence("`int field(int a, int k)`: The number of the object that field k of actor a holds; "
        + "-1 if it holds NONE, or there is no such actor or field.")
    private static void fields() {
        for (int held = ISO; held <= TAG; held++) {
            CountedActors m = new CountedActors(2);
            int keep = behaviour(m, TAG, make(1, ISO), swap(2, THIS, held, 1));
            call(m, 0, keep);
            call(m, 1, keep);
            for (int a : numbers(MIN, -1, 0, 1, 2, 3, 4, MAX)) {
                for (int k : numbers(MIN, -1, 0, 1, 2, 3, 4, 5, 6, 7, MAX)) {
                    boolean holds = (a == 0 || a == 1) && k == held;
                    CHECK.due("field(" + a + ", " + k + ") with " + held, m.field(a, k), holds ? a : -1);
                }
            }
        }
    }

    @Sentence("`int inner(int o, int k)`: The number of the object that field k of object o holds; "
        + "-1 if it holds NONE, or there is no such object or field.")
    private static void inners() {
        for (int held = ISO; held <= TAG; held++) {
            // Object 0 is freed, object 1 holds object 3, object 2 holds object 4.
            CountedActors m = new CountedActors(1);
            call(m, 0, behaviour(m, TAG, make(1, REF), put(1, REF, 1), make(2, REF), make(3, REF), make(4, ISO), make(5, ISO),
                swap(4, 2, held, 4), swap(5, 3, held, 5), put(THIS, REF, 2), put(THIS, BOX, 3)));
            CHECK.due("inner(0, 2) before", m.inner(0, REF), 0);
            CHECK.due("collect(0)", m.collect(0), 1);
            for (int o : numbers(MIN, -1, 0, 1, 2, 5, 15, 16, MAX)) {
                for (int k : numbers(MIN, -1, 0, 1, 2, 3, 4, 5, 6, 7, MAX)) {
                    boolean holds = (o == 1 || o == 2) && k == held;
                    CHECK.due("inner(" + o + ", " + k + ") with " + held, m.inner(o, k), holds ? o + 2 : -1);
                }
            }
        }
    }

    @Sentence("WHAT AN ACTOR SEES: it sees an object by capability k if its own field k holds it; ")
    private static void seesWhatItHolds() {
        for (int k = ISO; k <= TAG; k++) {
            for (int a = 0; a < 3; a++) {
                CountedActors m = new CountedActors(3);
                call(m, a, behaviour(m, TAG, make(1, ISO), swap(2, THIS, k, 1)));
                for (int other = 0; other < 3; other++) {
                    CHECK.due("rights(" + other + ", 0)", m.rights(other, 0), other == a ? RIGHTS[k] : 0);
                }
            }
        }
    }

    @Sentence("by the capability of the parameter, if a call in its queue has it there; ")
    private static void seesWhatIsSent() {
        for (int parameter : numbers(ISO, VAL, TAG)) {
            for (int place : numbers(0, 1, 19)) {
                CountedActors m = new CountedActors(3);
                behaviour(m, parameter);
                int send = behaviour(m, TAG, make(1, ISO), send(1, 0, 1));
                postTimes(m, place, 1, 0);
                call(m, 0, send);
                postTimes(m, 19 - place, 1, 0);
                CHECK.due("rights(1, 0) by a call in place " + place, m.rights(1, 0), RIGHTS[parameter]);
                CHECK.due("rights(0, 0), the sender", m.rights(0, 0), 0);
                CHECK.due("rights(2, 0), another", m.rights(2, 0), 0);
                stepTimes(m, place, 1);
                CHECK.due("rights(1, 0) before it is taken", m.rights(1, 0), RIGHTS[parameter]);
                m.step(1);
                CHECK.due("rights(1, 0) once it is taken", m.rights(1, 0), 0);
            }
        }
        // A raise or a lower in the queue shows nothing.
        CountedActors m = new CountedActors(2);
        int ignore = behaviour(m, VAL);
        int onward = behaviour(m, VAL, send(0, ignore, 0));
        call(m, 0, behaviour(m, TAG, make(1, VAL), send(1, onward, 1)));
        stepTimes(m, 2, 1);
        CHECK.due("waiting(0): a raise", m.waiting(0), 1);
        CHECK.due("rights(0, 0) with a raise", m.rights(0, 0), 0);
        m.collect(1);
        m.step(0);
        CHECK.due("waiting(0): a lower", m.waiting(0), 1);
        CHECK.due("rights(0, 0) with a lower", m.rights(0, 0), 0);
    }

    /** Field i of the actor holds object 0, field j of that object 1, field k of that object 2. */
    @Sentence("and if it sees an object p by a capability c other than TAG, "
        + "it sees what field k of p holds by the view of k from c.")
    private static void seesByViews() {
        for (int i = ISO; i <= TAG; i++) {
            for (int j = ISO; j <= TAG; j++) {
                for (int k = ISO; k <= TAG; k++) {
                    CountedActors m = ran(make(1, ISO), make(2, ISO), make(3, ISO), swap(4, 2, k, 3), swap(4, 1, j, 2),
                        swap(4, THIS, i, 1));
                    int second = i == TAG ? -1 : VIEW[i][j];
                    int third = second == -1 || second == TAG ? -1 : VIEW[second][k];
                    String way = " by " + i + ", " + j + ", " + k;
                    CHECK.due("rights(0, 1)" + way, m.rights(0, 1), second == -1 ? 0 : RIGHTS[second]);
                    CHECK.due("rights(0, 2)" + way, m.rights(0, 2), third == -1 ? 0 : RIGHTS[third]);
                }
            }
        }
        for (int parameter : numbers(ISO, VAL, TAG)) {
            for (int j = ISO; j <= TAG; j++) {
                CountedActors m = new CountedActors(2);
                behaviour(m, parameter);
                call(m, 0, behaviour(m, TAG, make(1, ISO), make(2, ISO), swap(3, 1, j, 2), send(1, 0, 1)));
                CHECK.due("rights(1, 1) by a call of " + parameter + " and " + j, m.rights(1, 1),
                    parameter == TAG ? 0 : RIGHTS[VIEW[parameter][j]]);
            }
        }
    }

    @Sentence("`int rights(int a, int o)`: 1 if actor a sees object o, plus 2 if it sees it by a readable capability, "
        + "plus 4 if by a writable one; 0 if not, or if there is no such actor or object.")
    private static void rights() {
        CountedActors m = oneOfThreeFreed();
        for (int a : numbers(MIN, -1, 0, 1, 2, 3, 4, MAX)) {
            for (int o : numbers(MIN, -1, 0, 1, 2, 3, 15, 16, MAX)) {
                CHECK.due("rights(" + a + ", " + o + ")", m.rights(a, o), a == o && (a == 0 || a == 2) ? 7 : 0);
            }
        }
        // By several capabilities at once: what one allows is not lost by another.
        int[][] both = {{TAG, BOX, 3}, {TAG, REF, 7}, {BOX, REF, 7}, {TAG, TAG, 1}, {BOX, BOX, 3}};
        for (int[] b : both) {
            m = ran(make(1, REF), put(THIS, b[0], 1), put(THIS, b[1], 1));
            CHECK.due("rights(0, 0) by " + b[0] + " and " + b[1], m.rights(0, 0), b[2]);
        }
        // Seen by TAG at hand and readably from afar, and what is in it goes by the better of them.
        m = ran(make(1, REF), make(2, REF), make(3, REF), put(2, REF, 3), put(1, REF, 2), put(THIS, TAG, 2), put(THIS, BOX, 1));
        CHECK.due("rights(0, 1) by TAG and by a view", m.rights(0, 1), 3);
        CHECK.due("rights(0, 2) by a view of a view", m.rights(0, 2), 3);
        m = ran(make(1, REF), put(1, BOX, 1), put(1, REF, 1), put(THIS, REF, 1));
        CHECK.due("rights(0, 0) of one that holds itself", m.rights(0, 0), 7);
        m = ran(make(1, REF), put(1, REF, 1));
        CHECK.due("rights(0, 0) of one that holds itself alone", m.rights(0, 0), 0);
    }

    /** A machine on which 1, 2, 3, .. were shown, so often. */
    private static CountedActors showed(int times) {
        CountedActors m = new CountedActors(1);
        int make = behaviour(m, TAG, make(1, REF), put(THIS, REF, 1));
        int show = behaviour(m, TAG, get(1, THIS, REF), grow(1, 1), show(1));
        call(m, 0, make);
        for (int i = 0; i < times; i++) {
            call(m, 0, show);
        }
        return m;
    }

    @Sentence("`int shown(int k)`: What was shown k-th counted from the latest (0), k at most 15; "
        + "0 if not so much was shown or k is not 0 .. 15.")
    private static void shown() {
        for (int times : numbers(0, 1, 2, 14, 15, 16, 17, 18, 31, 32, 33, 48)) {
            CountedActors m = showed(times);
            for (int k = 0; k < 16; k++) {
                CHECK.due("shown(" + k + ") of " + times, m.shown(k), k < times ? times - k : 0);
            }
            for (int k : numbers(MIN, -17, -16, -3, -2, 16, 17, 18, 31, 32, MAX)) {
                CHECK.due("shown(" + k + ") of " + times, m.shown(k), 0);
            }
        }
    }

    @Sentence("k = -1: how often something was shown.")
    private static void howOftenShown() {
        for (int times : numbers(0, 1, 2, 15, 16, 17, 32, 33, 80)) {
            CHECK.due("shown(-1) of " + times, showed(times).shown(-1), times);
        }
        CountedActors m = ran(make(1, REF), show(1), show(1), grow(1, 3), show(1));
        CHECK.due("shown(-1): the same, and 0, are shown each time", m.shown(-1), 3);
        call(m, 0, behaviour(m, ISO, show(0)));
        CHECK.due("shown(-1): NONE is not shown", m.shown(-1), 3);
    }

    /** Five calls to write, 504 to run, and three more, which must be right still. */
    @Sentence("An object is used for at most 512 calls after it has been made; what later calls answer is free.")
    private static void fiveHundredAndTwelveCalls() {
        CountedActors m = new CountedActors(4);
        m.begin(TAG);
        m.add(NEW, 1, 0, REF, 0);
        m.add(ADD, 0, 1, 0, 7);
        m.add(SHOW, 0, 1, 0, 0);
        m.end();
        for (int i = 0; i < 168; i++) {
            m.post(i % 4, 0);
            m.step(i % 4);
            m.collect(i % 4);
        }
        CHECK.due("call 510, shown(-1)", m.shown(-1), 168);
        CHECK.due("call 511, shown(15)", m.shown(15), 7);
        CHECK.due("call 512, post(3, 0)", m.post(3, 0), true);
    }
}
