/** Promise 1: a new object. */
public final class NewMachineTest {
    private static final Check CHECK = new Check("NewMachineTest");

    public static void main(String[] args) {
        int[] asked = {Integer.MIN_VALUE, -1, 0, 1, 2, 3, 4, 5, Integer.MAX_VALUE};
        int[] actors = {1, 1, 1, 1, 2, 3, 4, 4, 4};
        for (int i = 0; i < asked.length; i++) {
            look(asked[i], actors[i]);
        }
        wrapsAroundItsActors();
        machinesAreApart();
        CHECK.finish();
    }

    private static void look(int n, int actors) {
        CountedActors m = new CountedActors(n);
        String of = " of a new machine of " + n;
        for (int a = -1; a <= 5; a++) {
            CHECK.due("waiting(" + a + ")" + of, m.waiting(a), a >= 0 && a < actors ? 0 : -1);
            for (int k = 0; k < 6; k++) {
                CHECK.due("field(" + a + ", " + k + ")" + of, m.field(a, k), -1);
            }
        }
        for (int o = 0; o < 16; o++) {
            CHECK.due("owner(" + o + ")" + of, m.owner(o), -1);
        }
        CHECK.due("post(0, 0)" + of, m.post(0, 0), false);
        CHECK.due("holds(0)" + of, m.holds(0), -1);
        CHECK.due("end()" + of, m.end(), false);
        CHECK.due("shown(-1)" + of, m.shown(-1), 0);
        CHECK.due("garbage()" + of, m.garbage(), 0);
        CHECK.due("lost()" + of, m.lost(), 0);
        CHECK.due("begin(5)" + of, m.begin(5), 0);
    }

    private static void wrapsAroundItsActors() {
        for (int n = 1; n <= 4; n++) {
            for (int distance = 0; distance < 4; distance++) {
                CountedActors m = new CountedActors(n);
                int leaf = Script.behaviour(m, 5);
                int sender = Script.behaviour(m, 5, Script.send(distance, leaf, 0));
                Script.call(m, n - 1, sender);
                for (int a = 0; a < n; a++) {
                    CHECK.due("waiting(" + a + ") of " + n + " at distance " + distance,
                        m.waiting(a), a == (n - 1 + distance) % n ? 1 : 0);
                }
            }
        }
    }

    private static void machinesAreApart() {
        CountedActors used = new CountedActors(1);
        Script.call(used, 0, Script.behaviour(used, 5, Script.make(1, 2), Script.put(6, 2, 1)));
        CountedActors fresh = new CountedActors(1);
        CHECK.due("owner(0) of the used one", used.owner(0), 0);
        CHECK.due("owner(0) of the fresh one", fresh.owner(0), -1);
        CHECK.due("field(0, 2) of the fresh one", fresh.field(0, 2), -1);
        CHECK.due("post(0, 0) of the fresh one", fresh.post(0, 0), false);
    }
}
