/** Promises 2, 4 and 5: begin, end, drop. */
public final class BeginEndDropTest {
    private static final Check CHECK = new Check("BeginEndDropTest");

    public static void main(String[] args) {
        parametersAreSendable();
        oneIsOpenAtATime();
        sixAreTheMost();
        endIsRefusedInABlock();
        dropIsAsIfNotBegun();
        dropLeavesABlock();
        refusedBeginChangesNothing();
        CHECK.finish();
    }

    private static void parametersAreSendable() {
        for (int k : new int[] {Integer.MIN_VALUE, -32, -1, 0, 1, 2, 3, 4, 5, 6, 7, 32, 35, 64, Integer.MAX_VALUE}) {
            CountedActors m = new CountedActors(1);
            boolean is = k == 0 || k == 3 || k == 5;
            CHECK.due("begin(" + k + ")", m.begin(k), is ? 0 : -1);
            CHECK.due("holds(0) behind begin(" + k + ")", m.holds(0), is ? k : -1);
            CHECK.due("end() behind begin(" + k + ")", m.end(), is);
        }
    }

    private static void oneIsOpenAtATime() {
        CountedActors m = new CountedActors(1);
        CHECK.due("end() with none open", m.end(), false);
        CHECK.due("drop() with none open", m.drop(), false);
        CHECK.due("begin(3)", m.begin(3), 0);
        CHECK.due("begin(5) with one open", m.begin(5), -1);
        CHECK.due("holds(0) is still that of the open one", m.holds(0), 3);
        CHECK.due("end() of one without statements", m.end(), true);
        CHECK.due("end() again", m.end(), false);
        CHECK.due("drop() of a finished one", m.drop(), false);
        CHECK.due("begin(5) behind end()", m.begin(5), 1);
    }

    private static void sixAreTheMost() {
        CountedActors m = new CountedActors(1);
        for (int b = 0; b < 6; b++) {
            CHECK.due("begin(5), the next", m.begin(5), b);
            CHECK.due("end(), the next", m.end(), true);
        }
        CHECK.due("begin(5), the seventh", m.begin(5), -1);
        CHECK.due("end() behind the seventh", m.end(), false);
        CHECK.due("drop() behind the seventh", m.drop(), false);
        CHECK.due("post(0, 5)", m.post(0, 5), true);
        CHECK.due("post(0, 6)", m.post(0, 6), false);
    }

    private static void endIsRefusedInABlock() {
        CountedActors m = Script.writing(3, Script.open());
        CHECK.due("end() in a block", m.end(), false);
        CHECK.due("post(0, 0) of one that could not end", m.post(0, 0), false);
        CHECK.due("begin(0) while it is still open", m.begin(0), -1);
        CHECK.due("SHUT behind the refused end", Script.add(m, Script.shut(1, 0)), 0);
        CHECK.due("end() behind the block", m.end(), true);
        CHECK.due("post(0, 0) of the finished one", m.post(0, 0), true);
    }

    private static void dropIsAsIfNotBegun() {
        CountedActors m = new CountedActors(1);
        Script.behaviour(m, 5);
        m.begin(0);
        Script.addAll(m, Script.make(1, 2), Script.make(2, 2), Script.make(3, 1));
        CHECK.due("drop()", m.drop(), true);
        CHECK.due("drop() again", m.drop(), false);
        CHECK.due("holds(1) behind drop()", m.holds(1), -1);
        CHECK.due("add behind drop()", Script.add(m, Script.make(1, 2)), 1);
        CHECK.due("post(0, 1) of the dropped one", m.post(0, 1), false);
        CHECK.due("post(0, 0) of the one before", m.post(0, 0), true);
        CHECK.due("begin(5) has the number of the dropped one", m.begin(5), 1);
        CHECK.due("holds(0) of the new one", m.holds(0), 5);
        for (int x = 1; x < 6; x++) {
            CHECK.due("holds(" + x + ") of the new one", m.holds(x), -1);
        }
        CHECK.due("end() of the new one", m.end(), true);
        m.step(0);
        Script.call(m, 0, 1);
        CHECK.due("owner(0): the dropped statements are gone", m.owner(0), -1);
        for (int b = 2; b < 6; b++) {
            m.begin(5);
            m.drop();
            CHECK.due("begin(5) behind begin and drop", m.begin(5), b);
            m.end();
        }
        CHECK.due("begin(5), the seventh", m.begin(5), -1);
    }

    private static void dropLeavesABlock() {
        CountedActors m = Script.writing(3, Script.make(1, 2), Script.open(), Script.make(2, 0));
        CHECK.due("drop() in a block", m.drop(), true);
        CHECK.due("begin(3) behind it", m.begin(3), 0);
        CHECK.due("SHUT: the block is gone", Script.add(m, Script.shut(1, 0)), 4);
        CHECK.due("GET from THIS, not hidden", Script.add(m, Script.get(1, 6, 2)), 0);
        Script.addAll(m, Script.make(2, 0), Script.open(), Script.shut(4, 0));
        CHECK.due("holds(2): it did not become something in this block", m.holds(2), 0);
        CHECK.due("end()", m.end(), true);
    }

    private static void refusedBeginChangesNothing() {
        CountedActors m = Script.writing(3, Script.make(1, 2), Script.open());
        m.begin(5);
        m.begin(2);
        CHECK.due("holds(0) behind a refused begin", m.holds(0), 3);
        CHECK.due("holds(1) behind a refused begin", m.holds(1), -2);
        CHECK.due("OPEN behind a refused begin", Script.add(m, Script.open()), 4);
    }
}
