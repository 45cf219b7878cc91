/** Promises 11 to 15: owner, cell, count, field, inner. */
public final class LookTest {
    private static final Check CHECK = new Check("LookTest");
    private static final int[] NO_OBJECT = {Integer.MIN_VALUE, -1, 3, 15, 16, 17, Integer.MAX_VALUE};
    private static final int[] NO_ACTOR = {Integer.MIN_VALUE, -1, 2, 3, 4, Integer.MAX_VALUE};
    private static final int[] NO_FIELD = {Integer.MIN_VALUE, -1, 6, 7, Integer.MAX_VALUE};

    public static void main(String[] args) {
        CountedActors m = new CountedActors(2);
        Script.call(m, 1, Script.behaviour(m, 5, Script.make(1, 2), Script.grow(1, -4), Script.put(6, 2, 1)));
        Script.call(m, 0, Script.behaviour(m, 5, Script.make(1, 2), Script.make(2, 2), Script.grow(2, 9),
            Script.put(1, 4, 2), Script.put(1, 5, 1), Script.put(6, 4, 1), Script.put(6, 5, 2), Script.put(2, 2, 1)));
        objects(m);
        fields(m);
        counts(m);
        wrongInputs(m);
        lookingChangesNothing(m);
        freed();
        allFieldsOfAll();
        CHECK.finish();
    }

    private static void objects(CountedActors m) {
        int[] owners = {1, 0, 0};
        int[] cells = {-4, 0, 9};
        for (int o = 0; o < 3; o++) {
            CHECK.due("owner(" + o + ")", m.owner(o), owners[o]);
            CHECK.due("cell(" + o + ")", m.cell(o), cells[o]);
        }
    }

    private static void fields(CountedActors m) {
        int[][] ofActors = {{-1, -1, -1, -1, 1, 2}, {-1, -1, 0, -1, -1, -1}};
        int[][] ofObjects = {{-1, -1, -1, -1, -1, -1}, {-1, -1, -1, -1, 2, 1}, {-1, -1, 1, -1, -1, -1}};
        for (int k = 0; k < 6; k++) {
            for (int a = 0; a < 2; a++) {
                CHECK.due("field(" + a + ", " + k + ")", m.field(a, k), ofActors[a][k]);
            }
            for (int o = 0; o < 3; o++) {
                CHECK.due("inner(" + o + ", " + k + ")", m.inner(o, k), ofObjects[o][k]);
            }
        }
    }

    private static void counts(CountedActors m) {
        for (int a = 0; a < 2; a++) {
            for (int o = 0; o < 3; o++) {
                CHECK.due("count(" + a + ", " + o + ")", m.count(a, o), 0);
            }
        }
    }

    private static void wrongInputs(CountedActors m) {
        for (int o : NO_OBJECT) {
            CHECK.due("owner(" + o + ")", m.owner(o), -1);
            CHECK.due("cell(" + o + ")", m.cell(o), 0);
            CHECK.due("count(0, " + o + ")", m.count(0, o), -1);
            CHECK.due("inner(" + o + ", 2)", m.inner(o, 2), -1);
        }
        for (int a : NO_ACTOR) {
            CHECK.due("count(" + a + ", 0)", m.count(a, 0), -1);
            CHECK.due("field(" + a + ", 2)", m.field(a, 2), -1);
        }
        for (int k : NO_FIELD) {
            CHECK.due("field(0, " + k + ")", m.field(0, k), -1);
            CHECK.due("field(1, " + k + ")", m.field(1, k), -1);
            CHECK.due("inner(1, " + k + ")", m.inner(1, k), -1);
            CHECK.due("inner(2, " + k + ")", m.inner(2, k), -1);
        }
    }

    private static void lookingChangesNothing(CountedActors m) {
        m.rights(0, 1);
        m.garbage();
        m.shown(0);
        objects(m);
        fields(m);
        counts(m);
    }

    private static void freed() {
        CountedActors m = new CountedActors(1);
        Script.call(m, 0, Script.behaviour(m, 5, Script.make(1, 2), Script.grow(1, 3), Script.put(1, 2, 1)));
        CHECK.due("cell(0)", m.cell(0), 3);
        CHECK.due("collect(0)", m.collect(0), 1);
        CHECK.due("owner(0) of a freed one", m.owner(0), -1);
        CHECK.due("cell(0) of a freed one", m.cell(0), 0);
        CHECK.due("count(0, 0) of a freed one", m.count(0, 0), -1);
        CHECK.due("inner(0, 2) of a freed one", m.inner(0, 2), -1);
    }

    /** Each of four actors fills four fields; each new object holds, by TAG, the actor's one before. */
    private static void allFieldsOfAll() {
        CountedActors m = new CountedActors(4);
        int[] fills = new int[6];
        for (int k = 0; k < 6; k++) {
            fills[k] = Script.behaviour(m, 5, Script.get(2, 6, 5), Script.make(1, 0), Script.put(1, 5, 2),
                Script.copy(3, 1), Script.put(6, 5, 3), Script.swap(4, 6, k, 1));
        }
        int next = 0;
        for (int k = 0; k < 4; k++) {
            for (int a = 0; a < 4; a++) {
                Script.call(m, a, fills[k]);
            }
        }
        for (int k = 0; k < 4; k++) {
            for (int a = 0; a < 4; a++) {
                CHECK.due("field(" + a + ", " + k + ")", m.field(a, k), next);
                CHECK.due("owner(" + next + ")", m.owner(next), a);
                CHECK.due("inner(" + next + ", 5)", m.inner(next, 5), k == 0 ? -1 : next - 4);
                next++;
            }
        }
        for (int a = 0; a < 4; a++) {
            CHECK.due("field(" + a + ", 5)", m.field(a, 5), 12 + a);
            CHECK.due("field(" + a + ", 4)", m.field(a, 4), -1);
        }
    }
}
