/** Promise 6, and what the statements make of the locals while a behaviour is written. */
public final class HoldsTest {
    private static final Check CHECK = new Check("HoldsTest");
    private static final String CAPABILITIES = "ISO TRN REF VAL BOX TAG";
    private static final String[] VIEW = {
        "ISO TAG TAG VAL TAG TAG", "ISO BOX BOX VAL BOX TAG", "ISO TRN REF VAL BOX TAG",
        "VAL VAL VAL VAL VAL TAG", "TAG BOX BOX VAL BOX TAG"
    };
    private static final String[] DRAWN = {
        "ISO VAL TAG VAL TAG TAG", "ISO VAL BOX VAL BOX TAG", "ISO TRN REF VAL BOX TAG"
    };
    private static final int[] ALIAS = {5, 4, 2, 3, 4, 5};
    private static final int[] OUT_OF_BLOCK = {0, 0, 0, 3, 3, 5};

    public static void main(String[] args) {
        atFirst();
        newCopyMove();
        getByView();
        swapDraws();
        theSameLocalTwice();
        putAndOthersLeaveThemAlone();
        blocks();
        blocksAndEachLocal();
        CHECK.finish();
    }

    private static int in(String row, int place) {
        return CAPABILITIES.indexOf(row.split(" ")[place]) / 4;
    }

    private static void due(String what, CountedActors m, int... want) {
        for (int x = 0; x < 6; x++) {
            CHECK.due(what + ": holds(" + x + ")", m.holds(x), want[x]);
        }
    }

    private static void atFirst() {
        CountedActors m = new CountedActors(1);
        due("nothing open", m, -1, -1, -1, -1, -1, -1);
        for (int k : new int[] {0, 3, 5}) {
            m.begin(k);
            due("at first", m, k, -1, -1, -1, -1, -1);
            for (int x : new int[] {Integer.MIN_VALUE, -2, -1, 6, 7, Integer.MAX_VALUE}) {
                CHECK.due("holds(" + x + ")", m.holds(x), -1);
            }
            m.end();
            due("ended", m, -1, -1, -1, -1, -1, -1);
        }
        m = Script.writing(0, Script.open());
        CHECK.due("holds(6) in a block, where THIS is hidden", m.holds(6), -1);
        m.drop();
        CHECK.due("holds(0) of a dropped one", m.holds(0), -1);
    }

    private static void newCopyMove() {
        for (int c = 0; c < 6; c++) {
            CountedActors m = Script.writing(5, Script.make(1, c));
            due("NEW", m, 5, c, -1, -1, -1, -1);
            Script.addAll(m, Script.copy(2, 1));
            due("COPY", m, 5, c, ALIAS[c], -1, -1, -1);
            Script.addAll(m, Script.move(4, 1));
            due("MOVE", m, 5, -1, ALIAS[c], -1, c, -1);
            Script.addAll(m, Script.move(0, 4), Script.make(2, 5));
            due("MOVE and NEW onto others", m, c, -1, 5, -1, -1, -1);
        }
    }

    private static void getByView() {
        for (int c = 0; c < 5; c++) {
            for (int f = 0; f < 6; f++) {
                CountedActors m = Script.writing(5, Script.make(1, c), Script.get(2, 1, f));
                due("GET of " + f + " from " + c, m, 5, c, ALIAS[in(VIEW[c], f)], -1, -1, -1);
            }
        }
        for (int f = 0; f < 6; f++) {
            due("GET of " + f + " from THIS", Script.writing(5, Script.get(2, 6, f)), 5, -1, ALIAS[f], -1, -1, -1);
        }
    }

    private static void swapDraws() {
        for (int f = 0; f < 6; f++) {
            for (int c = 0; c < 3; c++) {
                CountedActors m = Script.writing(5, Script.make(1, c), Script.make(2, 0), Script.swap(3, 1, f, 2));
                due("SWAP of " + f + " from " + c, m, 5, c, -1, in(DRAWN[c], f), -1, -1);
            }
            CountedActors m = Script.writing(5, Script.make(2, 0), Script.swap(3, 6, f, 2));
            due("SWAP of " + f + " from THIS", m, 5, -1, -1, f, -1, -1);
        }
    }

    private static void theSameLocalTwice() {
        due("COPY 1 1 of ISO", Script.writing(5, Script.make(1, 0), Script.copy(1, 1)), 5, 5, -1, -1, -1, -1);
        due("COPY 1 1 of TRN", Script.writing(5, Script.make(1, 1), Script.copy(1, 1)), 5, 4, -1, -1, -1, -1);
        due("MOVE 1 1", Script.writing(5, Script.make(1, 1), Script.move(1, 1)), 5, 1, -1, -1, -1, -1);
        due("GET 1 1", Script.writing(5, Script.make(1, 1), Script.get(1, 1, 2)), 5, 4, -1, -1, -1, -1);
        CountedActors m = Script.writing(5, Script.make(1, 1), Script.make(2, 0), Script.swap(1, 1, 1, 2));
        due("SWAP with x = y", m, 5, 3, -1, -1, -1, -1);
        m = Script.writing(5, Script.make(1, 1), Script.make(2, 0), Script.swap(2, 1, 1, 2));
        due("SWAP with x = z", m, 5, 1, 3, -1, -1, -1);
        m = Script.writing(5, Script.open(), Script.make(1, 2), Script.shut(1, 1));
        due("SHUT 1 1", m, 5, 0, -1, -1, -1, -1);
    }

    private static void putAndOthersLeaveThemAlone() {
        CountedActors m = Script.writing(5, Script.make(1, 2), Script.make(2, 0), Script.put(1, 5, 2),
            Script.put(6, 2, 1), Script.grow(2, 9), Script.show(1));
        due("PUT, ADD, SHOW", m, 5, 2, 0, -1, -1, -1);
        Script.addAll(m, Script.send(0, 0, 2));
        due("SEND", m, 5, 2, -1, -1, -1, -1);
    }

    private static void blocks() {
        for (int c = 0; c < 6; c++) {
            boolean sendable = c == 0 || c == 3 || c == 5;
            CountedActors m = Script.writing(3, Script.make(1, c), Script.open());
            due("OPEN", m, 3, sendable ? c : -2, -1, -1, -1, -1);
            Script.addAll(m, Script.make(2, c), Script.make(3, 1));
            due("a REF made in the block", m, 3, sendable ? c : -2, c, 1, -1, -1);
            Script.addAll(m, Script.shut(5, 2));
            due("SHUT", m, 3, c, -1, -1, -1, OUT_OF_BLOCK[c]);
        }
        CountedActors m = Script.writing(3, Script.make(1, 2), Script.make(2, 0), Script.make(4, 5), Script.open(),
            Script.make(1, 4), Script.move(2, 2), Script.copy(3, 0));
        due("a hidden one that became something, one moved onto itself", m, 3, 4, 0, 3, 5, -1);
        Script.addAll(m, Script.shut(5, 4));
        due("what became something is emptied, also what was there before", m, 3, -1, -1, -1, -1, 5);
        m = Script.writing(3, Script.make(1, 2), Script.make(2, 0), Script.open(), Script.shut(1, 2));
        due("SHUT onto a hidden one", m, 3, 0, -1, -1, -1, -1);
        Script.addAll(m, Script.open(), Script.copy(3, 0), Script.shut(3, 3));
        due("a second block", m, 3, 0, -1, 3, -1, -1);
        Script.addAll(m, Script.make(4, 1));
        due("behind the blocks", m, 3, 0, -1, 3, 1, -1);
        m = Script.writing(3, Script.open(), Script.make(1, 0), Script.move(2, 1), Script.shut(3, 0), Script.make(1, 2),
            Script.open(), Script.make(2, 0));
        due("hidden though it became something in a block before", m, -1, -2, 0, 3, -1, -1);
        Script.addAll(m, Script.shut(0, 2));
        due("not emptied for what it became before", m, 0, 2, -1, 3, -1, -1);
    }

    private static void blocksAndEachLocal() {
        for (int x = 0; x < 6; x++) {
            int other = (x + 1) % 6;
            CountedActors m = Script.writing(5, Script.make(x, 2), Script.make(other, 0), Script.open());
            CHECK.due("holds(" + x + ") in a block", m.holds(x), -2);
            Script.addAll(m, Script.shut(other, other));
            CHECK.due("holds(" + x + ") behind it", m.holds(x), 2);
            CHECK.due("holds(" + other + ") behind it", m.holds(other), 0);
            Script.addAll(m, Script.open(), Script.make(x, 2));
            CHECK.due("holds(" + x + ") once it became something", m.holds(x), 2);
            Script.addAll(m, Script.shut(other, other));
            CHECK.due("holds(" + x + ") behind that block", m.holds(x), -1);
        }
    }
}
