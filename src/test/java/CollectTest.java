/** Promise 9: collect. */
public final class CollectTest {
    private static final Check CHECK = new Check("CollectTest");

    public static void main(String[] args) {
        wrongInputs();
        freesWhatIsNotKept();
        keepsByTheCapabilityOfTheField();
        ringsAreFreed();
        fieldsThatHeldItHoldNone();
        whatIsOnItsWayIsNotFreed();
        lowersGoByNumber();
        keepsItsCountOfWhatIsKept();
        lowersNeedRoom();
        aFreedObjectOfAnotherIsNotLowered();
        CHECK.finish();
    }

    private static void wrongInputs() {
        CountedActors m = new CountedActors(2);
        Script.call(m, 1, Script.behaviour(m, 5, Script.make(1, 2)));
        for (int a : new int[] {Integer.MIN_VALUE, -1, 2, 3, Integer.MAX_VALUE}) {
            CHECK.due("collect(" + a + ")", m.collect(a), -1);
        }
        CHECK.due("collect(0) with nothing of its own", m.collect(0), 0);
        CHECK.due("owner(0)", m.owner(0), 1);
        CHECK.due("collect(1)", m.collect(1), 1);
        CHECK.due("collect(1) again", m.collect(1), 0);
    }

    private static void freesWhatIsNotKept() {
        CountedActors m = new CountedActors(1);
        Script.call(m, 0, Script.behaviour(m, 5, Script.make(1, 2), Script.make(2, 2), Script.make(3, 2),
            Script.make(4, 2), Script.put(2, 2, 4), Script.put(6, 2, 2)));
        CHECK.due("collect(0)", m.collect(0), 2);
        int[] owners = {-1, 0, -1, 0};
        for (int o = 0; o < 4; o++) {
            CHECK.due("owner(" + o + ")", m.owner(o), owners[o]);
        }
        CHECK.due("field(0, 2)", m.field(0, 2), 1);
        CHECK.due("inner(1, 2)", m.inner(1, 2), 3);
    }

    private static void keepsByTheCapabilityOfTheField() {
        for (int outer = 0; outer < 6; outer++) {
            for (int k = 0; k < 6; k++) {
                CountedActors m = new CountedActors(1);
                Script.call(m, 0, Script.behaviour(m, 5, Script.make(1, 0), Script.make(2, 0), Script.make(3, 0),
                    Script.swap(4, 2, 4, 3), Script.swap(4, 1, k, 2), Script.swap(4, 6, outer, 1)));
                int freed = outer == 5 ? 2 : k == 5 ? 1 : 0;
                CHECK.due("collect(0) by " + outer + " and " + k, m.collect(0), freed);
                CHECK.due("owner(0)", m.owner(0), 0);
                CHECK.due("owner(1)", m.owner(1), freed == 2 ? -1 : 0);
                CHECK.due("owner(2)", m.owner(2), freed >= 1 ? -1 : 0);
                CHECK.due("inner(0, " + k + ")", m.inner(0, k), freed == 2 ? -1 : 1);
                CHECK.due("inner(1, 4)", m.inner(1, 4), freed >= 1 ? -1 : 2);
            }
        }
    }

    private static void ringsAreFreed() {
        CountedActors m = new CountedActors(1);
        Script.call(m, 0, Script.behaviour(m, 5, Script.make(1, 2), Script.make(2, 2), Script.put(1, 2, 2),
            Script.put(2, 2, 1), Script.put(1, 4, 1)));
        CHECK.due("collect(0) of a ring", m.collect(0), 2);
        CHECK.due("owner(0)", m.owner(0), -1);
        CHECK.due("owner(1)", m.owner(1), -1);
    }

    private static void fieldsThatHeldItHoldNone() {
        CountedActors m = new CountedActors(1);
        int make = Script.behaviour(m, 5, Script.make(1, 2), Script.make(2, 2), Script.put(1, 2, 2),
            Script.put(1, 5, 2), Script.put(6, 5, 1));
        Script.call(m, 0, make);
        CHECK.due("collect(0)", m.collect(0), 1);
        CHECK.due("inner(0, 2)", m.inner(0, 2), -1);
        CHECK.due("inner(0, 5)", m.inner(0, 5), -1);
        Script.call(m, 0, make);
        CHECK.due("owner(1) used again", m.owner(1), 0);
        CHECK.due("inner(0, 2) of the older one", m.inner(0, 2), -1);
        CHECK.due("field(0, 5)", m.field(0, 5), 1);
    }

    private static void whatIsOnItsWayIsNotFreed() {
        CountedActors m = new CountedActors(2);
        int take = Script.behaviour(m, 0, Script.swap(1, 6, 0, 0));
        int ignore = Script.behaviour(m, 0);
        Script.call(m, 0, Script.behaviour(m, 5, Script.make(1, 0), Script.make(2, 0), Script.send(1, take, 1),
            Script.send(0, ignore, 2)));
        CHECK.due("collect(0) while both are on their way", m.collect(0), 0);
        CHECK.due("collect(1) while both are on their way", m.collect(1), 0);
        m.step(0);
        m.step(1);
        CHECK.due("collect(0) frees what came back to it", m.collect(0), 1);
        CHECK.due("owner(0)", m.owner(0), 0);
        CHECK.due("owner(1)", m.owner(1), -1);
        CHECK.due("collect(1) keeps what it holds", m.collect(1), 0);
        CHECK.due("waiting(0)", m.waiting(0), 0);
        Script.call(m, 1, take);
        CHECK.due("collect(0) before the lower", m.collect(0), 0);
        CHECK.due("collect(1) frees nothing of another's", m.collect(1), 0);
        CHECK.due("collect(0) with the lower on its way", m.collect(0), 0);
        CHECK.due("step(0) takes the lower", m.step(0), 2);
        CHECK.due("collect(0) behind the lower", m.collect(0), 1);
    }

    /** Actors 1 and 2 of a machine of 3 hold an object of actor 0 each, and let go of it. */
    private static void lowersGoByNumber() {
        CountedActors m = new CountedActors(3);
        int ignore = Script.behaviour(m, 3);
        int twoForOne = Script.behaviour(m, 5, Script.make(1, 3), Script.make(2, 3), Script.copy(3, 2),
            Script.send(1, ignore, 2), Script.send(1, ignore, 3), Script.send(1, ignore, 1));
        Script.call(m, 0, twoForOne);
        for (int i = 0; i < 3; i++) {
            m.step(1);
        }
        CHECK.due("count(1, 0)", m.count(1, 0), 1);
        CHECK.due("count(1, 1)", m.count(1, 1), 2);
        CHECK.due("collect(1)", m.collect(1), 0);
        CHECK.due("count(1, 0) given back", m.count(1, 0), 0);
        CHECK.due("count(1, 1) given back", m.count(1, 1), 0);
        CHECK.due("waiting(0): a lower for each", m.waiting(0), 2);
        CHECK.due("collect(1) again", m.collect(1), 0);
        CHECK.due("waiting(0): no other", m.waiting(0), 2);
        CHECK.due("step(0)", m.step(0), 2);
        CHECK.due("count(0, 0): the least number was first", m.count(0, 0), 0);
        CHECK.due("count(0, 1)", m.count(0, 1), 2);
        CHECK.due("step(0)", m.step(0), 2);
        CHECK.due("count(0, 1) lowered by all of it", m.count(0, 1), 0);
        CHECK.due("collect(0)", m.collect(0), 2);
    }

    private static void keepsItsCountOfWhatIsKept() {
        CountedActors m = new CountedActors(2);
        int keepTag = Script.behaviour(m, 0, Script.copy(1, 0), Script.put(6, 5, 1));
        Script.call(m, 0, Script.behaviour(m, 5, Script.make(1, 0), Script.make(2, 0), Script.swap(3, 1, 2, 2),
            Script.send(1, keepTag, 1)));
        m.step(1);
        CHECK.due("collect(1)", m.collect(1), 0);
        CHECK.due("count(1, 0): kept by TAG", m.count(1, 0), 1);
        CHECK.due("count(1, 1): not kept", m.count(1, 1), 0);
        CHECK.due("waiting(0)", m.waiting(0), 1);
        m.step(0);
        CHECK.due("collect(0) frees the inner one", m.collect(0), 1);
        CHECK.due("owner(0)", m.owner(0), 0);
        CHECK.due("inner(0, 2)", m.inner(0, 2), -1);
    }

    private static void lowersNeedRoom() {
        CountedActors m = new CountedActors(2);
        int ignore = Script.behaviour(m, 3);
        Script.call(m, 0, Script.behaviour(m, 5, Script.make(1, 3), Script.make(2, 3), Script.send(1, ignore, 1),
            Script.send(1, ignore, 2)));
        m.step(1);
        m.step(1);
        for (int i = 0; i < 20; i++) {
            m.post(1, ignore);
        }
        CHECK.due("collect(1) without room", m.collect(1), 0);
        CHECK.due("count(1, 0) stays", m.count(1, 0), 1);
        CHECK.due("waiting(0)", m.waiting(0), 0);
        m.step(1);
        CHECK.due("collect(1) with room for one", m.collect(1), 0);
        CHECK.due("count(1, 0) given back", m.count(1, 0), 0);
        CHECK.due("count(1, 1) stays", m.count(1, 1), 1);
        CHECK.due("waiting(0)", m.waiting(0), 1);
        m.step(1);
        CHECK.due("collect(1) with room for the other", m.collect(1), 0);
        CHECK.due("count(1, 1) given back", m.count(1, 1), 0);
        CHECK.due("lost(): a lower is none", m.lost(), 0);
    }

    private static void aFreedObjectOfAnotherIsNotLowered() {
        CountedActors m = new CountedActors(2);
        int take = Script.behaviour(m, 5);
        Script.call(m, 0, Script.behaviour(m, 5, Script.make(1, 2), Script.send(1, take, 1)));
        m.step(1);
        m.collect(1);
        m.step(0);
        CHECK.due("collect(0)", m.collect(0), 1);
        CHECK.due("collect(1)", m.collect(1), 0);
        CHECK.due("waiting(0)", m.waiting(0), 0);
        CHECK.due("count(1, 0)", m.count(1, 0), -1);
    }
}
