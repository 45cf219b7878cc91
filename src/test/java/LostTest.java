/** Promise 19: lost. */
public final class LostTest {
    private static final Check CHECK = new Check("LostTest");

    public static void main(String[] args) {
        newWithoutANumber();
        sendWithoutRoom();
        sendWithoutRoomForRaises();
        theTakenCallMakesRoom();
        CHECK.finish();
    }

    private static void newWithoutANumber() {
        CountedActors m = new CountedActors(2);
        int eight = Script.behaviour(m, 5, Script.make(1, 2), Script.make(1, 2), Script.make(1, 2), Script.make(1, 2),
            Script.make(1, 2), Script.make(1, 2), Script.make(1, 2), Script.make(1, 2));
        int keep = Script.behaviour(m, 5, Script.get(1, 6, 2), Script.make(1, 2), Script.grow(1, 5), Script.show(1),
            Script.put(6, 2, 1));
        Script.call(m, 0, eight);
        Script.call(m, 1, eight);
        CHECK.due("lost() with 16 objects", m.lost(), 0);
        CHECK.due("owner(15)", m.owner(15), 1);
        Script.call(m, 1, keep);
        CHECK.due("lost() with one more", m.lost(), 1);
        CHECK.due("field(1, 2): the local became NONE", m.field(1, 2), -1);
        CHECK.due("shown(-1)", m.shown(-1), 0);
        Script.call(m, 0, eight);
        CHECK.due("lost() with eight more", m.lost(), 9);
        CHECK.due("collect(0)", m.collect(0), 8);
        Script.call(m, 1, keep);
        CHECK.due("lost() with room again", m.lost(), 9);
        CHECK.due("field(1, 2)", m.field(1, 2), 0);
    }

    private static void sendWithoutRoom() {
        CountedActors m = new CountedActors(2);
        int take = Script.behaviour(m, 0, Script.swap(1, 6, 0, 0));
        int two = Script.behaviour(m, 5, Script.make(1, 0), Script.make(2, 0), Script.send(1, take, 1),
            Script.send(1, take, 2));
        m.post(0, two);
        for (int i = 0; i < 19; i++) {
            m.post(1, take);
        }
        CHECK.due("step(0)", m.step(0), 0);
        CHECK.due("lost(): room for one of two", m.lost(), 1);
        CHECK.due("waiting(1)", m.waiting(1), 20);
        CHECK.due("count(0, 0): sent", m.count(0, 0), 1);
        CHECK.due("count(0, 1): lost", m.count(0, 1), 0);
        CHECK.due("garbage()", m.garbage(), 1);
        CHECK.due("collect(0)", m.collect(0), 1);
        CHECK.due("lost() behind it", m.lost(), 1);
    }

    /** Actor 1 has an object of actor 0, and one inside of it, both with count 1, and sends them on. */
    private static CountedActors aboutToSend(int posted) {
        CountedActors m = new CountedActors(3);
        int keep = Script.behaviour(m, 0, Script.swap(1, 6, 0, 0));
        int on = Script.behaviour(m, 0, Script.swap(1, 6, 0, 0), Script.send(1, keep, 1));
        Script.call(m, 0, Script.behaviour(m, 5, Script.make(1, 0), Script.make(2, 0), Script.swap(3, 1, 0, 2),
            Script.send(1, keep, 1)));
        m.step(1);
        m.post(1, on);
        for (int i = 0; i < posted; i++) {
            m.post(2, keep);
        }
        m.step(1);
        return m;
    }

    private static void sendWithoutRoomForRaises() {
        CountedActors m = aboutToSend(17);
        CHECK.due("lost() with room for a call and two raises", m.lost(), 0);
        CHECK.due("waiting(0): two raises", m.waiting(0), 2);
        CHECK.due("waiting(2): the call", m.waiting(2), 18);
        CHECK.due("count(1, 0)", m.count(1, 0), 8);
        CHECK.due("step(0)", m.step(0), 1);
        CHECK.due("count(0, 0): the raise of the least number first", m.count(0, 0), 9);
        CHECK.due("count(0, 1)", m.count(0, 1), 1);
        m = aboutToSend(18);
        CHECK.due("lost() with room for a call and one raise", m.lost(), 1);
        CHECK.due("waiting(0): no raise", m.waiting(0), 0);
        CHECK.due("waiting(2): no call", m.waiting(2), 18);
        CHECK.due("count(1, 0) does not change", m.count(1, 0), 1);
        CHECK.due("count(1, 1) does not change", m.count(1, 1), 1);
        CHECK.due("field(1, 0): the local was emptied all the same", m.field(1, 0), -1);
        CHECK.due("garbage()", m.garbage(), 2);
        m = aboutToSend(19);
        CHECK.due("lost() with room for a call alone", m.lost(), 1);
    }

    private static void theTakenCallMakesRoom() {
        CountedActors m = new CountedActors(1);
        int again = Script.behaviour(m, 5, Script.send(0, 0, 0));
        for (int i = 0; i < 20; i++) {
            m.post(0, again);
        }
        for (int i = 0; i < 30; i++) {
            CHECK.due("step(0)", m.step(0), 0);
        }
        CHECK.due("lost()", m.lost(), 0);
        CHECK.due("waiting(0)", m.waiting(0), 20);
        CHECK.due("post(0, 0)", m.post(0, again), false);
        CHECK.due("lost() behind a refused post", m.lost(), 0);
    }
}
