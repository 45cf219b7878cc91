/** Promise 16: rights. */
public final class RightsTest {
    private static final Check CHECK = new Check("RightsTest");
    /** What an actor may do by each capability: 1 sees, 2 reads, 4 writes. */
    private static final int[] BY = {7, 7, 7, 3, 3, 1};
    private static final int[][] VIEW = {
        {0, 5, 5, 3, 5, 5}, {0, 4, 4, 3, 4, 5}, {0, 1, 2, 3, 4, 5}, {3, 3, 3, 3, 3, 5}, {5, 4, 4, 3, 4, 5}
    };

    public static void main(String[] args) {
        byOwnFields();
        byViews();
        byCalls();
        bySeveralWays();
        notByRaisesAndLowers();
        notByOwning();
        rings();
        wrongInputs();
        CHECK.finish();
    }

    private static void byOwnFields() {
        for (int k = 0; k < 6; k++) {
            CountedActors m = new CountedActors(2);
            Script.call(m, 0, Script.behaviour(m, 5, Script.make(1, 0), Script.swap(2, 6, k, 1)));
            CHECK.due("rights(0, 0) by field " + k, m.rights(0, 0), BY[k]);
            CHECK.due("rights(1, 0) by field " + k + " of another", m.rights(1, 0), 0);
        }
    }

    /** Field i of the actor holds 0, field j of that 1, field k of that 2. */
    private static void byViews() {
        for (int i = 0; i < 6; i++) {
            for (int j = 0; j < 6; j++) {
                for (int k = 0; k < 6; k++) {
                    CountedActors m = new CountedActors(1);
                    Script.call(m, 0, Script.behaviour(m, 5, Script.make(1, 0), Script.make(2, 0), Script.make(3, 0),
                        Script.swap(4, 2, k, 3), Script.swap(4, 1, j, 2), Script.swap(4, 6, i, 1)));
                    String way = " by " + i + ", " + j + ", " + k;
                    int second = i == 5 ? -1 : VIEW[i][j];
                    int third = second == -1 || second == 5 ? -1 : VIEW[second][k];
                    CHECK.due("rights(0, 0)" + way, m.rights(0, 0), BY[i]);
                    CHECK.due("rights(0, 1)" + way, m.rights(0, 1), second == -1 ? 0 : BY[second]);
                    CHECK.due("rights(0, 2)" + way, m.rights(0, 2), third == -1 ? 0 : BY[third]);
                }
            }
        }
    }

    private static void byCalls() {
        for (int k : new int[] {0, 3, 5}) {
            CountedActors m = new CountedActors(2);
            Script.behaviour(m, k);
            Script.call(m, 0, Script.behaviour(m, 5, Script.make(1, 0), Script.make(2, 0), Script.swap(3, 1, 1, 2),
                Script.send(1, 0, 1)));
            m.post(1, 0);
            CHECK.due("rights(1, 0) by a call of " + k, m.rights(1, 0), BY[k]);
            CHECK.due("rights(1, 1) by a call of " + k, m.rights(1, 1), k == 5 ? 0 : BY[VIEW[k][1]]);
            CHECK.due("rights(0, 0): the sender has let go", m.rights(0, 0), 0);
            m.step(1);
            CHECK.due("rights(1, 0) once it was taken", m.rights(1, 0), 0);
        }
    }

    private static void bySeveralWays() {
        CountedActors m = new CountedActors(1);
        Script.call(m, 0, Script.behaviour(m, 5, Script.make(1, 2), Script.make(2, 2), Script.put(1, 2, 2),
            Script.put(6, 5, 1), Script.put(6, 4, 1), Script.put(6, 5, 2)));
        CHECK.due("rights(0, 0) by BOX", m.rights(0, 0), 3);
        CHECK.due("rights(0, 1) by TAG and by a view of BOX", m.rights(0, 1), 3);
        Script.call(m, 0, Script.behaviour(m, 5, Script.make(1, 2), Script.put(6, 2, 1), Script.put(6, 5, 1)));
        CHECK.due("rights(0, 2) by REF and TAG", m.rights(0, 2), 7);
    }

    private static void notByRaisesAndLowers() {
        CountedActors m = new CountedActors(2);
        int ignore = Script.behaviour(m, 3);
        int on = Script.behaviour(m, 3, Script.send(0, ignore, 0));
        Script.call(m, 0, Script.behaviour(m, 5, Script.make(1, 3), Script.send(1, on, 1)));
        m.step(1);
        CHECK.due("waiting(0): a raise", m.waiting(0), 1);
        CHECK.due("rights(0, 0) with a raise", m.rights(0, 0), 0);
        m.step(0);
        m.step(1);
        m.collect(1);
        CHECK.due("waiting(0): a lower", m.waiting(0), 1);
        CHECK.due("rights(0, 0) with a lower", m.rights(0, 0), 0);
        CHECK.due("rights(1, 0)", m.rights(1, 0), 0);
    }

    private static void notByOwning() {
        CountedActors m = new CountedActors(1);
        Script.call(m, 0, Script.behaviour(m, 5, Script.make(1, 2)));
        CHECK.due("owner(0)", m.owner(0), 0);
        CHECK.due("rights(0, 0)", m.rights(0, 0), 0);
    }

    private static void rings() {
        CountedActors m = new CountedActors(1);
        Script.call(m, 0, Script.behaviour(m, 5, Script.make(1, 2), Script.make(2, 2), Script.put(1, 2, 2),
            Script.put(2, 4, 1), Script.put(6, 4, 2)));
        CHECK.due("rights(0, 0) in a ring", m.rights(0, 0), 3);
        CHECK.due("rights(0, 1) in a ring", m.rights(0, 1), 3);
        Script.call(m, 0, Script.behaviour(m, 5, Script.get(1, 6, 4), Script.make(2, 2), Script.put(2, 4, 1),
            Script.put(2, 2, 2), Script.put(6, 2, 2)));
        CHECK.due("rights(0, 2) of one that holds itself", m.rights(0, 2), 7);
        CHECK.due("rights(0, 1) by BOX all the same", m.rights(0, 1), 3);
    }

    private static void wrongInputs() {
        CountedActors m = new CountedActors(2);
        Script.call(m, 0, Script.behaviour(m, 5, Script.make(1, 2), Script.put(6, 2, 1)));
        for (int a : new int[] {Integer.MIN_VALUE, -1, 2, 3, 4, Integer.MAX_VALUE}) {
            CHECK.due("rights(" + a + ", 0)", m.rights(a, 0), 0);
        }
        for (int o : new int[] {Integer.MIN_VALUE, -1, 1, 15, 16, Integer.MAX_VALUE}) {
            CHECK.due("rights(0, " + o + ")", m.rights(0, o), 0);
        }
        CHECK.due("rights(0, 0)", m.rights(0, 0), 7);
    }
}
