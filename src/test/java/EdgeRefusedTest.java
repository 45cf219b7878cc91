import java.util.LinkedHashMap;
import java.util.Map;
import java.util.function.Predicate;
import java.util.function.Supplier;

/** What is refused changes nothing: each refused call, with a machine beside it that was not asked. */
public final class EdgeRefusedTest extends Script {
    private static final Check CHECK = new Check("EdgeRefusedTest");
    private static final int MIN = Integer.MIN_VALUE;
    private static final int MAX = Integer.MAX_VALUE;

    public static void main(String[] args) {
        Sentences.runAll(EdgeRefusedTest.class, CHECK);
    }

    /**
     * Of 3 actors, with objects held and let go, counts of 0 to 8, something shown, and messages of
     * each kind: a raise and a lower for actor 0, calls with an object and with NONE for actor 2,
     * nothing for actor 1. The behaviours 0 to 2 are finished.
     */
    private static CountedActors busy() {
        CountedActors m = new CountedActors(3);
        int keep = behaviour(m, VAL, show(0), put(THIS, VAL, 0));
        int first = behaviour(m, TAG, make(1, VAL), put(THIS, VAL, 1), send(1, keep, 1), make(2, REF), grow(2, 5),
            put(THIS, REF, 2), put(2, BOX, 2), show(2));
        int pass = behaviour(m, TAG, get(1, THIS, VAL), send(1, keep, 1));
        call(m, 0, first);
        m.step(1);
        call(m, 1, pass);
        call(m, 1, keep);
        m.collect(1);
        m.post(2, pass);
        return m;
    }

    /** Behaviour 3 is open: local 0 ISO, 1 REF, 2 TRN, 3 BOX, 4 TAG, 5 empty. */
    private static CountedActors oneOpen() {
        CountedActors m = busy();
        m.begin(ISO);
        addAll(m, make(1, REF), make(2, TRN), make(3, BOX), make(4, TAG));
        return m;
    }

    /** The same in a block, where local 5 became an ISO. */
    private static CountedActors inBlock() {
        CountedActors m = oneOpen();
        addAll(m, open(), make(5, ISO));
        return m;
    }

    private static CountedActors tenStatements() {
        CountedActors m = oneOpen();
        addAll(m, put(1, REF, 1), put(THIS, BOX, 1), show(1), show(2), show(3), grow(1, 2));
        return m;
    }

    private static CountedActors sixBehaviours() {
        CountedActors m = busy();
        for (int b = 3; b < 6; b++) {
            behaviour(m, VAL, make(1, REF), grow(1, b), show(1));
        }
        return m;
    }

    private static CountedActors fullQueues() {
        CountedActors m = busy();
        postTimes(m, 16, 2, 0);
        return m;
    }

    private static CountedActors sixteenObjects() {
        CountedActors m = busy();
        int seven = behaviour(m, TAG, make(1, REF), make(1, REF), make(1, REF), make(1, REF), make(1, REF), make(1, REF),
            make(1, REF));
        call(m, 1, seven);
        call(m, 1, seven);
        return m;
    }

    private static Map<String, Supplier<CountedActors>> pasts() {
        Map<String, Supplier<CountedActors>> pasts = new LinkedHashMap<>();
        pasts.put("new", () -> new CountedActors(3));
        pasts.put("busy", EdgeRefusedTest::busy);
        pasts.put("open", EdgeRefusedTest::oneOpen);
        pasts.put("in a block", EdgeRefusedTest::inBlock);
        pasts.put("ten statements", EdgeRefusedTest::tenStatements);
        pasts.put("six behaviours", EdgeRefusedTest::sixBehaviours);
        pasts.put("full queues", EdgeRefusedTest::fullQueues);
        pasts.put("sixteen objects", EdgeRefusedTest::sixteenObjects);
        return pasts;
    }

    private static void refused(String what, Supplier<CountedActors> past, Predicate<CountedActors> isRefused) {
        new Twins(CHECK).staySame(what, past, m -> CHECK.due(what + ": whether it is refused", isRefused.test(m), true));
    }

    /** Refused in whatever state the machine is. */
    private static void refusedAlways(String what, Predicate<CountedActors> isRefused) {
        pasts().forEach((name, past) -> refused(name + ": " + what, past, isRefused));
    }

    private static void statement(String name, Supplier<CountedActors> past, int[] s, int why) {
        refused(name + ": " + named(s), past, m -> add(m, s) == why);
    }

    @Sentence("What is refused changes nothing.")
    private static void refusedBegin() {
        for (int k : numbers(MIN, -1, 1, 2, 4, 6, MAX)) {
            refusedAlways("begin(" + k + ")", m -> m.begin(k) == -1);
        }
        for (int k : numbers(ISO, VAL, TAG)) {
            refused("open: begin(" + k + ")", EdgeRefusedTest::oneOpen, m -> m.begin(k) == -1);
            refused("in a block: begin(" + k + ")", EdgeRefusedTest::inBlock, m -> m.begin(k) == -1);
            refused("ten statements: begin(" + k + ")", EdgeRefusedTest::tenStatements, m -> m.begin(k) == -1);
            refused("six behaviours: begin(" + k + ")", EdgeRefusedTest::sixBehaviours, m -> m.begin(k) == -1);
        }
    }

    @Sentence("What is refused changes nothing.")
    private static void refusedAdd() {
        int[][] any = {make(1, REF), copy(5, 1), move(5, 1), get(5, 1, 0), put(1, REF, 1), swap(5, THIS, TAG, 1), grow(1, 1),
            show(1), send(0, 0, 4), open(), shut(5, 1), {11, 0, 0, 0, 0}};
        for (int[] s : any) {
            statement("new", () -> new CountedActors(3), s, 1);
            statement("none open", EdgeRefusedTest::busy, s, 1);
            statement("ten statements", EdgeRefusedTest::tenStatements, s, 2);
        }
        int[][] none = {{-1, 0, 0, 0, 0}, {11, 0, 0, 0, 0}, make(6, REF), make(1, 6), copy(6, 1), copy(5, 6), move(-1, 1),
            get(5, 7, 0), get(5, 1, 6), put(7, REF, 1), put(1, 6, 1), put(1, REF, 6), swap(6, THIS, TAG, 1), grow(6, 1),
            show(-1), send(4, 0, 0), send(-1, 0, 0), send(0, 4, 0), shut(6, 0), shut(0, 6)};
        for (int[] s : none) {
            statement("open", EdgeRefusedTest::oneOpen, s, 3);
            statement("in a block", EdgeRefusedTest::inBlock, s, 3);
        }
        statement("open", EdgeRefusedTest::oneOpen, shut(5, 0), 4);
        statement("in a block", EdgeRefusedTest::inBlock, open(), 4);
        int[][] hidden = {copy(5, 1), move(5, 2), move(1, 1), get(5, 3, 0), get(0, THIS, 0), put(1, TAG, 0), put(0, TAG, 1),
            put(THIS, TAG, 0), swap(4, 1, TAG, 0), swap(4, 0, TAG, 1), swap(4, THIS, ISO, 5), grow(1, 1), show(2),
            send(0, 3, 3), shut(5, 1), shut(1, 1)};
        for (int[] s : hidden) {
            statement("in a block", EdgeRefusedTest::inBlock, s, 5);
        }
        int[][] empty = {copy(1, 5), move(1, 5), move(5, 5), get(1, 5, 0), put(5, TAG, 0), put(1, TAG, 5), swap(4, 5, TAG, 0),
            swap(4, 1, TAG, 5), swap(4, 1, REF, 1), grow(5, 1), show(5), send(0, 3, 5)};
        for (int[] s : empty) {
            statement("open", EdgeRefusedTest::oneOpen, s, 6);
        }
        statement("in a block", () -> {
            CountedActors m = inBlock();
            addAll(m, move(4, 5));
            return m;
        }, shut(1, 5), 6);
        int[][] notAble = {get(5, 4, 0), show(4), put(3, TAG, 0), swap(5, 3, TAG, 0), grow(3, 1), grow(4, 1)};
        for (int[] s : notAble) {
            statement("open", EdgeRefusedTest::oneOpen, s, 7);
        }
        int[][] notSafe = {put(0, TAG, 1), put(2, TAG, 2), swap(5, 0, TAG, 2), swap(5, 2, TAG, 1), swap(5, 2, TAG, 3)};
        for (int[] s : notSafe) {
            statement("open", EdgeRefusedTest::oneOpen, s, 8);
        }
        int[][] notFitting = {put(1, ISO, 0), put(1, VAL, 1), swap(5, 1, ISO, 2), swap(5, THIS, REF, 3), send(0, 3, 1),
            send(1, 0, 4), send(1, 3, 3)};
        for (int[] s : notFitting) {
            statement("open", EdgeRefusedTest::oneOpen, s, 9);
        }
    }

    @Sentence("What is refused changes nothing.")
    private static void refusedEndAndDrop() {
        refused("new: end()", () -> new CountedActors(3), m -> !m.end());
        refused("new: drop()", () -> new CountedActors(3), m -> !m.drop());
        refused("none open: end()", EdgeRefusedTest::busy, m -> !m.end());
        refused("none open: drop()", EdgeRefusedTest::busy, m -> !m.drop());
        refused("six behaviours: end()", EdgeRefusedTest::sixBehaviours, m -> !m.end());
        refused("six behaviours: drop()", EdgeRefusedTest::sixBehaviours, m -> !m.drop());
        refused("in a block: end()", EdgeRefusedTest::inBlock, m -> !m.end());
    }

    @Sentence("What is refused changes nothing.")
    private static void refusedPost() {
        for (int a : numbers(MIN, -1, 3, 4, MAX)) {
            refusedAlways("post(" + a + ", 0)", m -> !m.post(a, 0));
        }
        for (int b : numbers(MIN, -1, 6, 7, MAX)) {
            refusedAlways("post(0, " + b + ")", m -> !m.post(0, b));
        }
        refused("new: post(0, 0)", () -> new CountedActors(3), m -> !m.post(0, 0));
        refused("busy: post(0, 3)", EdgeRefusedTest::busy, m -> !m.post(0, 3));
        refused("open: post(0, 3)", EdgeRefusedTest::oneOpen, m -> !m.post(0, 3));
        refused("in a block: post(2, 3)", EdgeRefusedTest::inBlock, m -> !m.post(2, 3));
        for (int a = 0; a < 3; a++) {
            int to = a;
            refused("full queues: post(" + a + ", 0)", EdgeRefusedTest::fullQueues, m -> !m.post(to, 0));
        }
    }

    @Sentence("What is refused changes nothing.")
    private static void refusedStepAndCollect() {
        for (int a : numbers(MIN, -1, 3, 4, MAX)) {
            refusedAlways("step(" + a + ")", m -> m.step(a) == -1);
            refusedAlways("collect(" + a + ")", m -> m.collect(a) == -1);
        }
        refusedAlways("step(1), its queue is empty", m -> m.step(1) == -1);
    }

    @Sentence("What is refused changes nothing.")
    private static void whatIsAskedInVain() {
        refusedAlways("looks with numbers that are none", m -> {
            boolean inVain = true;
            for (int none : numbers(MIN, -1, 16, MAX)) {
                inVain &= m.owner(none) == -1 && m.cell(none) == 0 && m.count(0, none) == -1 && m.inner(none, 0) == -1;
                inVain &= m.rights(0, none) == 0 && m.field(0, none) == -1 && m.inner(0, none) == -1;
                inVain &= m.waiting(none) == -1 && m.count(none, 0) == -1 && m.field(none, 0) == -1;
                inVain &= m.rights(none, 0) == 0 && m.holds(none) == -1 && (none == -1 || m.shown(none) == 0);
            }
            return inVain;
        });
    }

    /** Nor does what is not refused, but only asked. */
    @Sentence("What is refused changes nothing.")
    private static void whatIsOnlyAsked() {
        pasts().forEach((name, past) -> new Twins(CHECK).staySame(name + ": looks", past, m -> {
            for (int x = 0; x < 6; x++) {
                CHECK.due("holds(" + x + ") twice", m.holds(x), m.holds(x));
                CHECK.due("shown(" + x + ") twice", m.shown(x), m.shown(x));
                CHECK.due("garbage() twice", m.garbage(), m.garbage());
                CHECK.due("rights(0, " + x + ") twice", m.rights(0, x), m.rights(0, x));
                CHECK.due("rights(2, " + x + ") twice", m.rights(2, x), m.rights(2, x));
                CHECK.due("lost() twice", m.lost(), m.lost());
            }
        }));
    }

    /** A SEND that is lost is none that is refused: it counts, and its local is emptied, but that is all. */
    @Sentence("then nothing is sent and no count changes: it is LOST.")
    private static void lostSendIsAsNoSend() {
        for (int actor : numbers(0, 1)) {
            for (int room = 0; room <= actor; room++) {
                CountedActors lost = withRoom(room, actor, send(1, 0, 1));
                CountedActors unsent = withRoom(room, actor, move(5, 1));
                CHECK.due("lost()", lost.lost(), 1);
                CHECK.due("lost() where nothing was sent", unsent.lost(), 0);
                Map<String, Integer> got = Twins.looks(lost);
                Map<String, Integer> want = Twins.looks(unsent);
                want.remove("lost()");
                want.forEach((call, answer) -> CHECK.due("behind a lost SEND " + call, got.get(call), answer));
            }
        }
    }

    /**
     * Actor 0, the owner, or actor 1, with count 1, takes a call that does the statement with local 1,
     * which holds object 0, when the queues have room for 0 or 1.
     */
    private static CountedActors withRoom(int room, int actor, int[] statement) {
        CountedActors m = new CountedActors(3);
        int keep = behaviour(m, VAL, put(THIS, VAL, 0));
        call(m, 0, behaviour(m, TAG, make(1, VAL), put(THIS, VAL, 1), send(1, keep, 1)));
        m.step(1);
        // The call that is taken leaves room for one, which the first SEND takes if there is to be none.
        int[] first = room == 0 ? send(1, keep, 0) : copy(2, 0);
        m.post(actor, behaviour(m, VAL, get(1, THIS, VAL), first, statement));
        postTimes(m, 19, 2, keep);
        m.step(actor);
        return m;
    }
}
