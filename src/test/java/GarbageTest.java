/** Promise 18: garbage. */
public final class GarbageTest {
    private static final Check CHECK = new Check("GarbageTest");

    public static void main(String[] args) {
        byFields();
        byCalls();
        notByOthers();
        acrossActors();
        CHECK.finish();
    }

    private static void byFields() {
        for (int outer = 0; outer < 6; outer++) {
            for (int k = 0; k < 6; k++) {
                CountedActors m = new CountedActors(2);
                Script.call(m, 1, Script.behaviour(m, 5, Script.make(1, 0), Script.make(2, 0), Script.make(3, 0),
                    Script.swap(4, 2, 4, 3), Script.swap(4, 1, k, 2), Script.swap(4, 6, outer, 1), Script.make(5, 2)));
                int want = 1 + (outer == 5 ? 2 : k == 5 ? 1 : 0);
                CHECK.due("garbage() by " + outer + " and " + k, m.garbage(), want);
                CHECK.due("collect(1) frees as much", m.collect(1), want);
                CHECK.due("garbage() behind it", m.garbage(), 0);
            }
        }
    }

    private static void byCalls() {
        for (int k : new int[] {0, 3, 5}) {
            CountedActors m = new CountedActors(2);
            Script.behaviour(m, k);
            Script.call(m, 0, Script.behaviour(m, 5, Script.make(1, 0), Script.make(2, 0), Script.swap(3, 1, 2, 2),
                Script.send(1, 0, 1)));
            CHECK.due("garbage() with a call by " + k, m.garbage(), k == 5 ? 1 : 0);
            m.step(1);
            CHECK.due("garbage() once it was taken", m.garbage(), 2);
        }
    }

    private static void notByOthers() {
        CountedActors m = new CountedActors(2);
        int ignore = Script.behaviour(m, 3);
        int on = Script.behaviour(m, 3, Script.send(0, ignore, 0));
        Script.call(m, 0, Script.behaviour(m, 5, Script.make(1, 3), Script.send(1, on, 1)));
        CHECK.due("garbage() on its way", m.garbage(), 0);
        m.step(1);
        CHECK.due("garbage() on its way again", m.garbage(), 0);
        m.step(1);
        CHECK.due("garbage() with a raise alone", m.garbage(), 1);
        m.step(0);
        m.collect(1);
        CHECK.due("waiting(0): a lower", m.waiting(0), 1);
        CHECK.due("garbage() with a lower alone", m.garbage(), 1);
        m.step(0);
        CHECK.due("garbage() until the owner collects", m.garbage(), 1);
        m.collect(0);
        CHECK.due("garbage() behind it", m.garbage(), 0);
    }

    private static void acrossActors() {
        CountedActors m = new CountedActors(4);
        int keep = Script.behaviour(m, 3, Script.put(6, 3, 0));
        int give = Script.behaviour(m, 5, Script.make(1, 3), Script.send(3, keep, 1));
        Script.call(m, 0, give);
        m.step(3);
        CHECK.due("garbage(): actor 3 holds it", m.garbage(), 0);
        Script.call(m, 3, keep);
        CHECK.due("garbage(): no one holds it", m.garbage(), 1);
    }
}
