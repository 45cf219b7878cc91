/** Promises 7 and 10: post and waiting. */
public final class PostTest {
    private static final Check CHECK = new Check("PostTest");

    public static void main(String[] args) {
        ordinary();
        wrongInputs();
        theOpenOneIsNotFinished();
        twentyInAllQueues();
        aPostedCallHasNone();
        CHECK.finish();
    }

    private static void ordinary() {
        CountedActors m = new CountedActors(3);
        Script.behaviour(m, 5);
        Script.behaviour(m, 0);
        CHECK.due("post(2, 1)", m.post(2, 1), true);
        CHECK.due("post(2, 0)", m.post(2, 0), true);
        CHECK.due("post(0, 1)", m.post(0, 1), true);
        CHECK.due("waiting(0)", m.waiting(0), 1);
        CHECK.due("waiting(1)", m.waiting(1), 0);
        CHECK.due("waiting(2)", m.waiting(2), 2);
        m.step(2);
        CHECK.due("waiting(2) behind a step", m.waiting(2), 1);
        CHECK.due("waiting(0) behind it", m.waiting(0), 1);
    }

    private static void wrongInputs() {
        CountedActors m = new CountedActors(3);
        Script.behaviour(m, 5);
        for (int a : new int[] {Integer.MIN_VALUE, -1, 3, 4, Integer.MAX_VALUE}) {
            CHECK.due("post(" + a + ", 0)", m.post(a, 0), false);
            CHECK.due("waiting(" + a + ")", m.waiting(a), -1);
        }
        for (int b : new int[] {Integer.MIN_VALUE, -1, 1, 5, 6, Integer.MAX_VALUE}) {
            CHECK.due("post(0, " + b + ")", m.post(0, b), false);
        }
        for (int a = 0; a < 3; a++) {
            CHECK.due("waiting(" + a + ") behind refused ones", m.waiting(a), 0);
        }
        CHECK.due("lost() behind refused ones", m.lost(), 0);
    }

    private static void theOpenOneIsNotFinished() {
        CountedActors m = new CountedActors(1);
        Script.behaviour(m, 5);
        m.begin(5);
        CHECK.due("post(0, 0) while another is open", m.post(0, 0), true);
        CHECK.due("post(0, 1) of the open one", m.post(0, 1), false);
        CHECK.due("step(0) while another is open", m.step(0), 0);
        m.end();
        CHECK.due("post(0, 1) of the finished one", m.post(0, 1), true);
    }

    private static void twentyInAllQueues() {
        CountedActors m = new CountedActors(4);
        Script.behaviour(m, 3);
        for (int i = 0; i < 20; i++) {
            CHECK.due("post " + i, m.post(i % 4, 0), true);
        }
        for (int a = 0; a < 4; a++) {
            CHECK.due("post(" + a + ", 0) without room", m.post(a, 0), false);
            CHECK.due("waiting(" + a + ")", m.waiting(a), 5);
        }
        CHECK.due("lost(): what post refuses is none", m.lost(), 0);
        CHECK.due("step(3)", m.step(3), 0);
        CHECK.due("post(1, 0) into the room", m.post(1, 0), true);
        CHECK.due("post(1, 0) without room again", m.post(1, 0), false);
        CHECK.due("waiting(1)", m.waiting(1), 6);
    }

    private static void aPostedCallHasNone() {
        CountedActors m = new CountedActors(1);
        int make = Script.behaviour(m, 5, Script.make(1, 2), Script.put(6, 2, 1));
        int store = Script.behaviour(m, 0, Script.swap(1, 6, 2, 0));
        Script.call(m, 0, make);
        CHECK.due("field(0, 2)", m.field(0, 2), 0);
        Script.call(m, 0, store);
        CHECK.due("field(0, 2) once NONE is stored there", m.field(0, 2), -1);
    }
}
