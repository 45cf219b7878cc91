/** Promise 8: what the statements do when an actor takes a call. */
public final class StepTest {
    private static final Check CHECK = new Check("StepTest");

    public static void main(String[] args) {
        wrongInputs();
        inOrder();
        newObjects();
        newObjectsWithUsedNumbers();
        copyAndMove();
        getAndPut();
        swap();
        swapWithSharedLocals();
        addAndShow();
        withNone();
        noneIsStoredAndSent();
        blocks();
        sendToItself();
        localsAreFreshEachTime();
        CHECK.finish();
    }

    /** A machine of one actor that has run one behaviour with these statements. */
    private static CountedActors ran(int[]... statements) {
        CountedActors m = new CountedActors(1);
        Script.call(m, 0, Script.behaviour(m, 5, statements));
        return m;
    }

    private static void wrongInputs() {
        CountedActors m = new CountedActors(2);
        Script.behaviour(m, 5);
        m.post(0, 0);
        for (int a : new int[] {Integer.MIN_VALUE, -1, 2, 4, Integer.MAX_VALUE}) {
            CHECK.due("step(" + a + ")", m.step(a), -1);
        }
        CHECK.due("step(1) of an empty queue", m.step(1), -1);
        CHECK.due("step(0)", m.step(0), 0);
        CHECK.due("step(0) of an emptied queue", m.step(0), -1);
    }

    private static void inOrder() {
        CountedActors m = new CountedActors(2);
        int[] showing = new int[3];
        for (int b = 0; b < 3; b++) {
            showing[b] = Script.behaviour(m, 5, Script.make(1, 2), Script.grow(1, 10 + b), Script.show(1));
        }
        int[] order = {2, 0, 1, 0};
        for (int b : order) {
            m.post(0, showing[b]);
            m.post(1, showing[2 - b]);
        }
        for (int b : order) {
            m.step(0);
            CHECK.due("shown(0) by actor 0", m.shown(0), 10 + b);
            m.step(1);
            CHECK.due("shown(0) by actor 1", m.shown(0), 12 - b);
        }
    }

    private static void newObjects() {
        CountedActors m = new CountedActors(3);
        int make = Script.behaviour(m, 5, Script.make(1, 2), Script.grow(1, 7), Script.put(1, 2, 1), Script.put(1, 5, 1));
        int keep = Script.behaviour(m, 5, Script.make(1, 2), Script.put(6, 2, 1));
        Script.call(m, 0, make);
        Script.call(m, 2, keep);
        Script.call(m, 0, make);
        CHECK.due("owner(0)", m.owner(0), 0);
        CHECK.due("owner(1)", m.owner(1), 2);
        CHECK.due("owner(2)", m.owner(2), 0);
        CHECK.due("cell(0)", m.cell(0), 7);
        CHECK.due("inner(0, 5)", m.inner(0, 5), 0);
        CHECK.due("collect(0)", m.collect(0), 2);
        Script.call(m, 1, keep);
        Script.call(m, 1, keep);
        CHECK.due("owner(0): the least free number", m.owner(0), 1);
        CHECK.due("owner(2): the next", m.owner(2), 1);
        CHECK.due("cell(0) of a number used again", m.cell(0), 0);
        for (int k = 0; k < 6; k++) {
            CHECK.due("inner(0, " + k + ") of a number used again", m.inner(0, k), -1);
            CHECK.due("inner(1, " + k + ") of a new one", m.inner(1, k), -1);
        }
        for (int a = 0; a < 3; a++) {
            CHECK.due("count(" + a + ", 0)", m.count(a, 0), 0);
        }
    }

    /** Object 0 is freed while its field still holds object 1, which is kept by TAG. */
    private static void newObjectsWithUsedNumbers() {
        for (int k = 0; k < 6; k++) {
            CountedActors m = new CountedActors(1);
            Script.call(m, 0, Script.behaviour(m, 5, Script.make(1, 2), Script.make(2, 0), Script.copy(3, 2),
                Script.put(6, 5, 3), Script.swap(4, 1, k, 2), Script.grow(1, 8)));
            CHECK.due("inner(0, " + k + ")", m.inner(0, k), 1);
            CHECK.due("collect(0)", m.collect(0), 1);
            CHECK.due("owner(1)", m.owner(1), 0);
            Script.call(m, 0, Script.behaviour(m, 5, Script.make(1, 2)));
            CHECK.due("owner(0), used again", m.owner(0), 0);
            CHECK.due("inner(0, " + k + "), used again", m.inner(0, k), -1);
            CHECK.due("cell(0), used again", m.cell(0), 0);
        }
    }

    private static void copyAndMove() {
        CountedActors m = ran(Script.make(1, 2), Script.make(2, 2), Script.copy(3, 2), Script.move(4, 1),
            Script.put(6, 2, 3), Script.put(6, 4, 4), Script.put(6, 5, 2));
        CHECK.due("COPY", m.field(0, 2), 1);
        CHECK.due("MOVE", m.field(0, 4), 0);
        CHECK.due("what was copied stays", m.field(0, 5), 1);
    }

    private static void getAndPut() {
        CountedActors m = ran(Script.make(1, 2), Script.make(2, 2), Script.put(1, 4, 2), Script.get(3, 1, 4),
            Script.put(6, 5, 3), Script.put(6, 2, 1), Script.get(4, 6, 2), Script.put(2, 5, 4));
        CHECK.due("PUT into field 4 of object 0", m.inner(0, 4), 1);
        CHECK.due("GET from object 0", m.field(0, 5), 1);
        CHECK.due("PUT into THIS", m.field(0, 2), 0);
        CHECK.due("GET from THIS", m.inner(1, 5), 0);
        CHECK.due("no other field", m.inner(0, 5), -1);
        CHECK.due("no other field of THIS", m.field(0, 4), -1);
    }

    private static void swap() {
        CountedActors m = ran(Script.make(1, 2), Script.make(2, 0), Script.make(3, 0), Script.swap(4, 1, 0, 2),
            Script.swap(5, 1, 0, 3), Script.put(6, 2, 1), Script.swap(2, 6, 0, 5));
        CHECK.due("what was stored last", m.inner(0, 0), 2);
        CHECK.due("what was drawn out", m.field(0, 0), 1);
    }

    private static void swapWithSharedLocals() {
        CountedActors m = ran(Script.make(1, 2), Script.make(2, 2), Script.put(1, 2, 2), Script.put(6, 2, 1),
            Script.make(3, 2), Script.swap(1, 1, 2, 3), Script.put(6, 4, 1));
        CHECK.due("SWAP with x = y stores in the old y", m.inner(0, 2), 2);
        CHECK.due("SWAP with x = y draws out", m.field(0, 4), 1);
        m = ran(Script.make(1, 2), Script.make(2, 2), Script.put(1, 2, 2), Script.put(6, 2, 1), Script.make(3, 2),
            Script.swap(3, 1, 2, 3), Script.put(6, 4, 3));
        CHECK.due("SWAP with x = z stores the old z", m.inner(0, 2), 2);
        CHECK.due("SWAP with x = z draws out", m.field(0, 4), 1);
        m = ran(Script.make(1, 2), Script.copy(2, 1), Script.put(6, 2, 1), Script.swap(3, 1, 2, 2));
        CHECK.due("SWAP of an object into itself", m.inner(0, 2), 0);
    }

    private static void addAndShow() {
        CountedActors m = ran(Script.make(1, 2), Script.grow(1, Integer.MAX_VALUE), Script.show(1), Script.grow(1, 2),
            Script.show(1), Script.grow(1, Integer.MIN_VALUE), Script.show(1), Script.grow(1, 0), Script.grow(1, -3));
        CHECK.due("cell(0)", m.cell(0), -2);
        CHECK.due("shown(2)", m.shown(2), Integer.MAX_VALUE);
        CHECK.due("shown(1), wrapped", m.shown(1), Integer.MIN_VALUE + 1);
        CHECK.due("shown(0), wrapped back", m.shown(0), 1);
        CHECK.due("shown(-1)", m.shown(-1), 3);
    }

    private static void withNone() {
        CountedActors m = new CountedActors(1);
        int fill = Script.behaviour(m, 5, Script.make(1, 2), Script.put(6, 2, 1), Script.make(2, 0),
            Script.swap(3, 6, 0, 2));
        Script.call(m, 0, fill);
        int none = Script.behaviour(m, 0, Script.put(0, 5, 0), Script.grow(0, 5), Script.show(0), Script.get(1, 0, 3),
            Script.put(6, 3, 1), Script.get(2, 6, 2), Script.put(6, 2, 2));
        Script.call(m, 0, none);
        CHECK.due("SHOW of NONE shows nothing", m.shown(-1), 0);
        CHECK.due("GET from NONE gives NONE", m.field(0, 3), -1);
        CHECK.due("field(0, 2) stays", m.field(0, 2), 0);
        CHECK.due("cell(0) stays", m.cell(0), 0);
        int get = Script.behaviour(m, 0, Script.get(1, 6, 2), Script.get(1, 0, 3), Script.put(6, 3, 1));
        Script.call(m, 0, get);
        CHECK.due("GET from NONE overwrites x", m.field(0, 3), -1);
        int swapNone = Script.behaviour(m, 0, Script.make(1, 0), Script.make(2, 0), Script.swap(2, 0, 0, 1),
            Script.swap(3, 6, 0, 2));
        Script.call(m, 0, swapNone);
        CHECK.due("SWAP with NONE gives NONE", m.field(0, 0), -1);
        CHECK.due("SWAP with NONE stores nowhere", m.garbage(), 3);
        for (int o = 0; o < 4; o++) {
            for (int k = 0; k < 6; k++) {
                CHECK.due("inner(" + o + ", " + k + ")", m.inner(o, k), -1);
            }
        }
    }

    private static void noneIsStoredAndSent() {
        CountedActors m = new CountedActors(2);
        int take = Script.behaviour(m, 0, Script.swap(1, 6, 0, 0));
        int fill = Script.behaviour(m, 5, Script.make(1, 0), Script.swap(2, 6, 0, 1));
        int sendNone = Script.behaviour(m, 0, Script.send(1, take, 0));
        int putNone = Script.behaviour(m, 3, Script.make(1, 2), Script.put(1, 3, 0), Script.put(6, 2, 1));
        Script.call(m, 1, fill);
        CHECK.due("field(1, 0)", m.field(1, 0), 0);
        Script.call(m, 0, sendNone);
        CHECK.due("waiting(1): a call with NONE", m.waiting(1), 1);
        CHECK.due("step(1)", m.step(1), 0);
        CHECK.due("field(1, 0), NONE stored by SWAP", m.field(1, 0), -1);
        Script.call(m, 0, putNone);
        CHECK.due("inner(1, 3), NONE stored by PUT", m.inner(1, 3), -1);
        CHECK.due("lost()", m.lost(), 0);
    }

    private static void blocks() {
        CountedActors m = ran(Script.make(1, 2), Script.open(), Script.make(2, 2), Script.make(3, 2),
            Script.put(2, 2, 3), Script.shut(3, 2), Script.swap(4, 6, 0, 3), Script.put(6, 2, 1));
        CHECK.due("what came out of the block", m.field(0, 0), 1);
        CHECK.due("what it holds", m.inner(1, 2), 2);
        CHECK.due("what was hidden is there again", m.field(0, 2), 0);
    }

    private static void sendToItself() {
        CountedActors m = new CountedActors(2);
        int again = Script.behaviour(m, 0, Script.make(1, 2), Script.grow(0, 1), Script.show(0), Script.send(0, 0, 0));
        int first = Script.behaviour(m, 5, Script.make(1, 0), Script.send(2, again, 1));
        Script.call(m, 0, first);
        for (int i = 1; i <= 5; i++) {
            CHECK.due("waiting(0)", m.waiting(0), 1);
            CHECK.due("count(0, 0) on its way", m.count(0, 0), 1);
            CHECK.due("step(0)", m.step(0), 0);
            CHECK.due("shown(0)", m.shown(0), i);
        }
        CHECK.due("waiting(1)", m.waiting(1), 0);
    }

    private static void localsAreFreshEachTime() {
        CountedActors m = new CountedActors(1);
        Script.behaviour(m, 5, Script.make(0, 2), Script.make(1, 2));
        int store = Script.behaviour(m, 5, Script.put(6, 5, 0));
        Script.call(m, 0, 0);
        Script.call(m, 0, store);
        CHECK.due("field(0, 5): the parameter is NONE", m.field(0, 5), -1);
    }
}
