/** Promises 8 and 13: sending and taking, with raises, lowers and counts. */
public final class MessagesTest {
    private static final Check CHECK = new Check("MessagesTest");

    public static void main(String[] args) {
        theOwnerSends();
        anotherSendsOn();
        theQueueOfTheOwnerIsInOrder();
        closures();
        tagAndReadable();
        tagFirstThenReadable();
        theParameterCapabilityCounts();
        sentTwice();
        CHECK.finish();
    }

    private static void counts(String when, CountedActors m, int o, int... want) {
        for (int a = 0; a < want.length; a++) {
            CHECK.due(when + ": count(" + a + ", " + o + ")", m.count(a, o), want[a]);
        }
    }

    private static void steps(CountedActors m, int a, int... kinds) {
        for (int kind : kinds) {
            CHECK.due("step(" + a + ")", m.step(a), kind);
        }
        CHECK.due("waiting(" + a + ") behind the steps", m.waiting(a), 0);
    }

    private static void theOwnerSends() {
        CountedActors m = new CountedActors(2);
        int take = Script.behaviour(m, 3, Script.put(6, 3, 0));
        int first = Script.behaviour(m, 5, Script.make(1, 3), Script.copy(2, 1), Script.send(0, take, 1),
            Script.send(1, take, 2));
        Script.call(m, 0, first);
        counts("two on their way", m, 0, 2, 0);
        steps(m, 0, 0);
        counts("the owner took one", m, 0, 1, 0);
        steps(m, 1, 0);
        counts("the other took one", m, 0, 1, 1);
        CHECK.due("field(0, 3)", m.field(0, 3), 0);
        CHECK.due("field(1, 3)", m.field(1, 3), 0);
    }

    private static void anotherSendsOn() {
        CountedActors m = new CountedActors(3);
        int take = Script.behaviour(m, 3, Script.put(6, 3, 0));
        int on = Script.behaviour(m, 5, Script.get(1, 6, 3), Script.send(1, take, 1));
        int first = Script.behaviour(m, 5, Script.make(1, 3), Script.send(1, take, 1));
        Script.call(m, 0, first);
        steps(m, 1, 0);
        counts("actor 1 has it", m, 0, 1, 1, 0);
        Script.call(m, 1, on);
        counts("a raise is on its way", m, 0, 1, 8, 0);
        CHECK.due("waiting(0): the raise", m.waiting(0), 1);
        for (int left = 7; left >= 1; left--) {
            steps(m, 2, 0);
            Script.call(m, 1, on);
            counts("no raise is needed", m, 0, 1, left, 8 - left);
            CHECK.due("waiting(0): no other raise", m.waiting(0), 1);
        }
        steps(m, 0, 1);
        counts("the raise was taken", m, 0, 9, 1, 7);
        steps(m, 2, 0);
        Script.call(m, 1, on);
        counts("a raise is needed again at 1", m, 0, 9, 8, 8);
        steps(m, 0, 1);
        counts("it was taken", m, 0, 17, 8, 8);
    }

    private static void theQueueOfTheOwnerIsInOrder() {
        CountedActors m = new CountedActors(2);
        int keep = Script.behaviour(m, 0, Script.swap(1, 6, 0, 0));
        int back = Script.behaviour(m, 0, Script.swap(1, 6, 0, 0), Script.send(1, keep, 1));
        int first = Script.behaviour(m, 5, Script.make(1, 0), Script.send(1, keep, 1));
        Script.call(m, 0, first);
        steps(m, 1, 0);
        Script.call(m, 1, back);
        CHECK.due("waiting(0): a raise, then the call", m.waiting(0), 2);
        counts("on its way back", m, 0, 1, 8);
        CHECK.due("collect(1)", m.collect(1), 0);
        CHECK.due("waiting(0): and a lower", m.waiting(0), 3);
        CHECK.due("step(0)", m.step(0), 1);
        counts("raised", m, 0, 9, 0);
        CHECK.due("step(0)", m.step(0), 0);
        counts("taken", m, 0, 8, 0);
        CHECK.due("field(0, 0)", m.field(0, 0), 0);
        steps(m, 0, 2);
        counts("lowered", m, 0, 0, 0);
    }

    /** Actor 0 has sent object 0 of the ring 0 -> 1 -> 2 -> 0, by the fields 2, to actor 1. */
    private static CountedActors ring(int parameter) {
        CountedActors m = new CountedActors(2);
        Script.behaviour(m, parameter);
        m.begin(5);
        Script.addAll(m, Script.open(), Script.make(1, 2), Script.make(2, 2), Script.put(1, 2, 2), Script.make(3, 2),
            Script.put(2, 2, 3), Script.put(3, 2, 1), Script.shut(1, 1), Script.send(1, 0, 1));
        m.end();
        Script.call(m, 0, 1);
        return m;
    }

    private static void closures() {
        for (int parameter : new int[] {0, 3, 5}) {
            CountedActors m = ring(parameter);
            int inside = parameter == 5 ? 0 : 1;
            counts("sent, a ring, by " + parameter, m, 0, 1, 0);
            counts("sent, a ring, by " + parameter, m, 1, inside, 0);
            counts("sent, a ring, by " + parameter, m, 2, inside, 0);
            steps(m, 1, 0);
            counts("taken, a ring, by " + parameter, m, 0, 1, 1);
            counts("taken, a ring, by " + parameter, m, 1, inside, inside);
            counts("taken, a ring, by " + parameter, m, 2, inside, inside);
        }
    }

    private static void tagAndReadable() {
        CountedActors m = new CountedActors(2);
        Script.behaviour(m, 0);
        Script.call(m, 0, Script.behaviour(m, 5, Script.make(1, 0), Script.make(2, 0), Script.make(3, 0),
            Script.swap(4, 2, 2, 3), Script.put(1, 5, 2), Script.send(1, 0, 1)));
        CHECK.due("inner(1, 2)", m.inner(1, 2), 2);
        counts("the root", m, 0, 1, 0);
        counts("held by TAG: in the closure", m, 1, 1, 0);
        counts("behind a TAG: not in it", m, 2, 0, 0);
    }

    /** Object 1 is met by TAG from object 0, and only then, from object 2, by a readable field. */
    private static void tagFirstThenReadable() {
        CountedActors m = new CountedActors(2);
        Script.behaviour(m, 0);
        int[][] statements = {
            Script.open(), Script.make(1, 2), Script.make(2, 2), Script.make(3, 2), Script.put(2, 2, 3),
            Script.put(1, 5, 2), Script.put(3, 2, 1), Script.put(1, 4, 3), Script.shut(1, 1), Script.send(1, 0, 1)
        };
        Script.call(m, 0, Script.behaviour(m, 5, statements));
        for (int o = 0; o < 3; o++) {
            counts("all are in the closure", m, o, 1, 0);
        }
        m = new CountedActors(2);
        Script.behaviour(m, 0);
        int build = Script.behaviour(m, 5, Script.make(1, 2), Script.make(2, 2), Script.make(3, 2), Script.make(4, 2),
            Script.put(6, 2, 1), Script.put(1, 2, 2), Script.put(2, 2, 3), Script.put(3, 2, 4), Script.put(6, 5, 3));
        Script.call(m, 0, build);
        CHECK.due("collect(0): object 2 is kept by TAG and readably", m.collect(0), 0);
        CHECK.due("garbage()", m.garbage(), 0);
    }

    private static void theParameterCapabilityCounts() {
        CountedActors m = new CountedActors(2);
        Script.behaviour(m, 5, Script.put(6, 5, 0));
        Script.call(m, 0, Script.behaviour(m, 5, Script.make(1, 2), Script.make(2, 2), Script.put(1, 2, 2),
            Script.send(1, 0, 1)));
        counts("a REF sent as TAG", m, 0, 1, 0);
        counts("what it holds", m, 1, 0, 0);
        steps(m, 1, 0);
        counts("taken", m, 0, 1, 1);
        counts("what it holds", m, 1, 0, 0);
        CHECK.due("field(1, 5)", m.field(1, 5), 0);
        CHECK.due("collect(0) frees what it holds", m.collect(0), 1);
        CHECK.due("inner(0, 2)", m.inner(0, 2), -1);
    }

    private static void sentTwice() {
        CountedActors m = new CountedActors(3);
        int take = Script.behaviour(m, 3, Script.put(6, 3, 0));
        int twice = Script.behaviour(m, 3, Script.copy(1, 0), Script.copy(2, 0), Script.send(2, take, 0),
            Script.send(1, take, 1), Script.put(6, 3, 2));
        Script.call(m, 0, Script.behaviour(m, 5, Script.make(1, 3), Script.send(1, twice, 1)));
        steps(m, 1, 0);
        counts("a raise, then none", m, 0, 1, 7, 0);
        CHECK.due("waiting(0): a raise and a call", m.waiting(0), 2);
        CHECK.due("waiting(2): a call", m.waiting(2), 1);
        steps(m, 0, 1, 0);
        counts("the owner took both", m, 0, 8, 7, 0);
        steps(m, 2, 0);
        counts("all have it", m, 0, 8, 7, 1);
    }
}
