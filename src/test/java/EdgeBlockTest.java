/** The edges of blocks: what is hidden and until when, what is emptied, and what comes out. */
public final class EdgeBlockTest extends Script {
    private static final Check CHECK = new Check("EdgeBlockTest");

    public static void main(String[] args) {
        Sentences.runAll(EdgeBlockTest.class, CHECK);
    }

    private static void holds(String when, CountedActors m, int... want) {
        for (int x = 0; x < 6; x++) {
            CHECK.due(when + ": holds(" + x + ")", m.holds(x), want[x]);
        }
    }

    @Sentence("9 OPEN begins a BLOCK.")
    private static void opening() {
        CountedActors m = writing(TAG);
        CHECK.due("end() could end it before", add(m, shut(1, 0)), 4);
        addAll(m, open());
        CHECK.due("end() in the block", m.end(), false);
        CHECK.due("OPEN counts as a statement: nine more", addUntilFull(m), 9);
        m = ran(make(1, REF), grow(1, 5), open(), make(2, REF), shut(3, 2), show(1));
        CHECK.due("shown(0): a block does nothing to what is hidden", m.shown(0), 5);
    }

    private static int addUntilFull(CountedActors m) {
        int added = 0;
        while (added < 20 && add(m, make(1, REF)) == 0) {
            added++;
        }
        return added;
    }

    @Sentence("In it THIS is HIDDEN, ")
    private static void thisIsHidden() {
        for (int f = 0; f < 6; f++) {
            CountedActors m = writing(ISO, make(1, ISO));
            CHECK.due("GET before the block", add(m, get(2, THIS, f)), 0);
            addAll(m, open());
            CHECK.due("GET in the block", add(m, get(2, THIS, f)), 5);
            CHECK.due("PUT in the block", add(m, put(THIS, f, 0)), 5);
            CHECK.due("SWAP in the block", add(m, swap(2, THIS, f, 0)), 5);
            addAll(m, make(3, REF));
            CHECK.due("GET later in the block: THIS becomes nothing", add(m, get(2, THIS, f)), 5);
            addAll(m, shut(1, 3));
            CHECK.due("GET behind the block", add(m, get(2, THIS, f)), 0);
            CHECK.due("SWAP behind the block", add(m, swap(2, THIS, f, 0)), 0);
        }
    }

    /** Each local in turn with each capability; all others are empty but for the parameter. */
    @Sentence("and so is each local whose capability at OPEN is not sendable, ")
    private static void notSendableOnesAreHidden() {
        for (int x = 0; x < 6; x++) {
            for (int c = ISO; c <= TAG; c++) {
                boolean sendable = c == ISO || c == VAL || c == TAG;
                CountedActors m = writing(TAG, make(x, c), open());
                for (int other = 0; other < 6; other++) {
                    int want = other == x ? (sendable ? c : -2) : other == 0 ? TAG : -1;
                    CHECK.due("holds(" + other + ") with " + c + " in " + x, m.holds(other), want);
                }
                CHECK.due("COPY of it", add(m, copy((x + 1) % 6, x)), sendable ? 0 : 5);
            }
        }
        CountedActors m = writing(TAG, make(1, REF), make(1, ISO), make(2, ISO), make(2, REF), open());
        holds("the capability at OPEN, not one before", m, TAG, ISO, -2, -1, -1, -1);
        addAll(m, make(1, REF));
        holds("nor one behind OPEN", m, TAG, REF, -2, -1, -1, -1);
        m = writing(TAG, make(1, REF), move(2, 1), open());
        holds("an emptied one is not hidden", m, TAG, -1, -2, -1, -1, -1);
    }

    @Sentence("until that local becomes something in the block.")
    private static void untilItBecomesSomething() {
        for (int hidden : numbers(TRN, REF, BOX)) {
            int[][] ways = {make(1, BOX), copy(1, 0), move(1, 0), get(1, 0, BOX), swap(1, 4, TAG, 0)};
            int[] becomes = {BOX, VAL, VAL, VAL, TAG};
            for (int i = 0; i < ways.length; i++) {
                CountedActors m = writing(VAL, make(1, hidden), make(2, hidden), make(4, ISO), open());
                CHECK.due("holds(1) before " + named(ways[i]), m.holds(1), -2);
                CHECK.due("COPY of it before", add(m, copy(5, 1)), 5);
                addAll(m, ways[i]);
                CHECK.due("holds(1) behind " + named(ways[i]), m.holds(1), becomes[i]);
                CHECK.due("holds(2) is hidden still", m.holds(2), -2);
                CHECK.due("COPY of it behind", add(m, copy(5, 1)), 0);
                CHECK.due("GET from THIS is hidden still", add(m, get(5, THIS, 0)), 5);
                addAll(m, move(3, 1));
                CHECK.due("holds(1) once it is emptied", m.holds(1), -1);
                CHECK.due("COPY of it once it is emptied", add(m, copy(5, 1)), 6);
            }
        }
        CountedActors m = writing(VAL, make(1, REF), open());
        CHECK.due("a refused statement makes nothing of it", add(m, copy(1, 5)), 6);
        CHECK.due("holds(1)", m.holds(1), -2);
    }

    @Sentence("10 SHUT x y ends the block.")
    private static void shutting() {
        CountedActors m = writing(TAG, open(), shut(1, 0));
        CHECK.due("SHUT again", add(m, shut(1, 1)), 4);
        CHECK.due("OPEN again", add(m, open()), 0);
        CHECK.due("end() in the second block", m.end(), false);
        CHECK.due("SHUT of the second block", add(m, shut(1, 1)), 0);
        CHECK.due("end()", m.end(), true);
        m = writing(TAG, open());
        CHECK.due("a refused SHUT ends nothing", add(m, shut(1, 5)), 6);
        CHECK.due("OPEN behind it", add(m, open()), 4);
    }

    @Sentence("y is emptied, then each local that became something in the block is emptied, nothing is hidden any more; ")
    private static void emptiedAtShut() {
        CountedActors m = writing(VAL, make(1, REF), make(2, ISO), make(3, TAG), open(), shut(5, 2));
        holds("y from outside; the others stay", m, VAL, REF, -1, TAG, -1, ISO);
        m = writing(VAL, make(1, REF), make(2, TRN), open(), make(1, REF), make(4, BOX), make(5, TAG), shut(3, 0));
        holds("what became something, hidden before or not", m, -1, -1, TRN, VAL, -1, -1);
        m = writing(VAL, make(1, ISO), open(), make(1, VAL), make(2, REF), shut(3, 2));
        holds("what was there before and became something", m, VAL, -1, -1, ISO, -1, -1);
        m = writing(VAL, make(1, ISO), open(), move(1, 1), copy(0, 0), make(2, REF), shut(3, 2));
        holds("what became itself", m, -1, -1, -1, ISO, -1, -1);
        m = writing(VAL, make(1, ISO), open(), make(2, REF), move(3, 2), shut(4, 0));
        holds("what became something and was emptied", m, -1, ISO, -1, -1, VAL, -1);
        m = writing(VAL, make(1, TRN), make(2, REF), make(3, BOX), open(), shut(0, 0));
        holds("nothing is hidden any more", m, VAL, TRN, REF, BOX, -1, -1);
        CHECK.due("nor is THIS", add(m, put(THIS, REF, 2)), 0);
        m = writing(ISO, make(1, REF), open(), send(0, 0, 0), make(3, BOX), shut(4, 3));
        holds("emptied in the block and not again something", m, -1, REF, -1, -1, VAL, -1);
        for (int x = 0; x < 6; x++) {
            int y = (x + 1) % 6;
            m = writing(TAG, make(x, REF), make(y, ISO), open(), shut(y, y));
            CHECK.due("holds(" + x + "), hidden in the block", m.holds(x), REF);
            addAll(m, open());
            CHECK.due("holds(" + x + ") in the next block", m.holds(x), -2);
            addAll(m, make(x, ISO), shut(x, y));
            CHECK.due("holds(" + x + "), what came out", m.holds(x), ISO);
            addAll(m, open(), make(y, REF), shut(y, y));
            CHECK.due("holds(" + x + "), not in this block", m.holds(x), ISO);
        }
        m = writing(VAL, open(), make(1, REF), shut(1, 1), make(2, REF), open(), make(3, ISO), shut(4, 3));
        holds("what became something before the block, in another or outside", m, VAL, ISO, REF, -1, ISO, -1);
    }

    @Sentence("then x becomes what y held, with ISO if y had ISO, TRN or REF, with VAL if it had VAL or BOX, "
        + "with TAG if it had TAG.")
    private static void whatComesOut() {
        int[] out = {ISO, ISO, ISO, VAL, VAL, TAG};
        for (int c = ISO; c <= TAG; c++) {
            for (int x = 0; x < 6; x++) {
                CountedActors m = writing(TAG, make(1, REF), open(), make(2, c), make(3, REF), shut(x, 2));
                int[] want = {TAG, REF, -1, -1, -1, -1};
                want[x] = out[c];
                holds("SHUT " + x + " of " + c, m, want);
            }
            CountedActors m = new CountedActors(1);
            call(m, 0, behaviour(m, TAG, make(1, REF), open(), make(2, c), make(3, REF), shut(1, 2), swap(4, THIS, TAG, 1)));
            CHECK.due("field(0, 5): what came out as " + c, m.field(0, TAG), 1);
        }
        CountedActors m = writing(TAG, open(), make(1, REF), shut(2, 1));
        holds("x did not become something in the block", m, TAG, -1, ISO, -1, -1, -1);
        addAll(m, open(), make(3, REF), shut(4, 3));
        holds("nor in the next one", m, TAG, -1, ISO, -1, ISO, -1);
        m = ran(open(), shut(1, 0), put(THIS, TAG, 1));
        CHECK.due("field(0, 5): NONE comes out too", m.field(0, TAG), -1);
    }
}
