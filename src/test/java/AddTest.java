import java.util.function.Function;

/** Promise 3: which statements are refused, and why; in what order the reasons are looked at. */
public final class AddTest {
    private static final Check CHECK = new Check("AddTest");
    private static final int[] NO_LOCALS = {Integer.MIN_VALUE, -1, 6, 7, Integer.MAX_VALUE};
    private static final String[] FITS = {"012345", "12345", "245", "345", "45", "5"};
    private static final int[] ALIAS = {5, 4, 2, 3, 4, 5};

    public static void main(String[] args) {
        noneIsOpen();
        tenAreTheMost();
        noSuchStatement();
        noSuchOperand();
        whatIsNotUsedIsNotLookedAt();
        sendNamesABehaviour();
        blocksAreOpenedAndShut();
        hiddenLocals();
        emptyLocals();
        readableAndWritable();
        safeSources();
        fittingSources();
        theFirstReasonCounts();
        refusedChangesNothing();
        CHECK.finish();
    }

    private static void due(String what, CountedActors m, int[] s, int want) {
        CHECK.due(what + ": add(" + s[0] + ", " + s[1] + ", " + s[2] + ", " + s[3] + ", " + s[4] + ")",
            Script.add(m, s), want);
    }

    private static void noneIsOpen() {
        CountedActors m = new CountedActors(2);
        due("nothing begun", m, Script.make(1, 0), 1);
        due("nothing begun and no such statement", m, new int[] {99, 0, 0, 0, 0}, 1);
        Script.behaviour(m, 5);
        due("all ended", m, Script.make(1, 0), 1);
    }

    private static void tenAreTheMost() {
        CountedActors m = Script.writing(5);
        for (int i = 0; i < 10; i++) {
            due("statement " + i, m, Script.make(1, 2), 0);
            due("a refused one does not count", m, Script.make(6, 2), i < 9 ? 3 : 2);
        }
        due("the eleventh", m, Script.make(1, 2), 2);
        due("the eleventh, no such statement", m, new int[] {11, 0, 0, 0, 0}, 2);
        CHECK.due("end() of a full one", m.end(), true);
    }

    private static void noSuchStatement() {
        for (int op : new int[] {Integer.MIN_VALUE, -1, 11, 12, Integer.MAX_VALUE}) {
            due("no such statement", Script.writing(0), new int[] {op, 0, 0, 0, 0}, 3);
        }
    }

    /** A writer of a statement that is refused, for 3, exactly when its number is none. */
    private static void operand(String what, Function<Integer, int[]> statement, int... none) {
        for (int number : none) {
            due(what, operandMachine(), statement.apply(number), 3);
        }
    }

    private static CountedActors operandMachine() {
        return Script.writing(0, Script.make(1, 2), Script.make(2, 2));
    }

    private static void noSuchOperand() {
        operand("NEW x", n -> Script.make(n, 0), NO_LOCALS);
        operand("NEW f", n -> Script.make(1, n), NO_LOCALS);
        operand("COPY x", n -> Script.copy(n, 1), NO_LOCALS);
        operand("COPY y", n -> Script.copy(3, n), NO_LOCALS);
        operand("MOVE x", n -> Script.move(n, 1), NO_LOCALS);
        operand("MOVE y", n -> Script.move(3, n), NO_LOCALS);
        int[] noTarget = {Integer.MIN_VALUE, -1, 7, 8, Integer.MAX_VALUE};
        operand("GET x", n -> Script.get(n, 1, 0), NO_LOCALS);
        operand("GET y", n -> Script.get(3, n, 0), noTarget);
        operand("GET f", n -> Script.get(3, 1, n), NO_LOCALS);
        operand("PUT y", n -> Script.put(n, 2, 2), noTarget);
        operand("PUT f", n -> Script.put(1, n, 2), NO_LOCALS);
        operand("PUT z", n -> Script.put(1, 2, n), NO_LOCALS);
        operand("SWAP x", n -> Script.swap(n, 1, 2, 2), NO_LOCALS);
        operand("SWAP y", n -> Script.swap(3, n, 2, 2), noTarget);
        operand("SWAP f", n -> Script.swap(3, 1, n, 2), NO_LOCALS);
        operand("SWAP z", n -> Script.swap(3, 1, 2, n), NO_LOCALS);
        operand("ADD y", n -> Script.grow(n, 1), NO_LOCALS);
        operand("SHOW y", n -> Script.show(n), NO_LOCALS);
        operand("SEND x", n -> Script.send(n, 0, 0), Integer.MIN_VALUE, -1, 4, 5, 6, Integer.MAX_VALUE);
        operand("SEND y", n -> Script.send(0, n, 0), Integer.MIN_VALUE, -1, 1, 5, 6, Integer.MAX_VALUE);
        operand("SEND z", n -> Script.send(0, 0, n), NO_LOCALS);
        operand("SHUT x", n -> Script.shut(n, 1), NO_LOCALS);
        operand("SHUT y", n -> Script.shut(3, n), NO_LOCALS);
    }

    private static void whatIsNotUsedIsNotLookedAt() {
        for (int odd : new int[] {Integer.MIN_VALUE, -1, 6, 7, 99, Integer.MAX_VALUE}) {
            due("NEW", operandMachine(), new int[] {Script.NEW, 3, odd, 0, odd}, 0);
            due("COPY", operandMachine(), new int[] {Script.COPY, 3, 1, odd, odd}, 0);
            due("MOVE", operandMachine(), new int[] {Script.MOVE, 3, 1, odd, odd}, 0);
            due("GET", operandMachine(), new int[] {Script.GET, 3, 1, 0, odd}, 0);
            due("PUT", operandMachine(), new int[] {Script.PUT, odd, 1, 2, 2}, 0);
            due("ADD with any int", operandMachine(), new int[] {Script.ADD, odd, 1, odd, odd}, 0);
            due("SHOW", operandMachine(), new int[] {Script.SHOW, odd, 1, odd, odd}, 0);
            due("SEND", operandMachine(), new int[] {Script.SEND, 3, 0, odd, 0}, 0);
            CountedActors m = operandMachine();
            due("OPEN", m, new int[] {Script.OPEN, odd, odd, odd, odd}, 0);
            due("SHUT", m, new int[] {Script.SHUT, 3, 0, odd, odd}, 0);
        }
        for (int y = 0; y < 7; y++) {
            due("NEW looks at no local but x", Script.writing(0), new int[] {Script.NEW, 1, y, 1, y}, 0);
        }
    }

    private static void sendNamesABehaviour() {
        CountedActors m = new CountedActors(2);
        Script.behaviour(m, 5);
        m.begin(5);
        due("SEND to a finished one", m, Script.send(0, 0, 0), 0);
        Script.addAll(m, Script.make(0, 2));
        due("SEND to the open one", m, Script.send(1, 1, 0), 0);
        Script.addAll(m, Script.make(0, 2));
        due("SEND to the next one", m, Script.send(1, 2, 0), 3);
        m.drop();
        m.begin(5);
        due("SEND to the one after a drop", m, Script.send(1, 2, 0), 3);
        due("SEND to the open one after a drop", m, Script.send(3, 1, 0), 0);
    }

    private static void blocksAreOpenedAndShut() {
        CountedActors m = Script.writing(0);
        due("SHUT outside", m, Script.shut(1, 0), 4);
        due("OPEN", m, Script.open(), 0);
        due("OPEN in a block", m, Script.open(), 4);
        due("SHUT", m, Script.shut(1, 0), 0);
        due("SHUT again", m, Script.shut(1, 1), 4);
        due("OPEN again", m, Script.open(), 0);
    }

    /** An open block: local 0 VAL, 1 hidden REF, 2 hidden TRN, 3 hidden BOX, 4 ISO, 5 empty. */
    private static CountedActors inBlock() {
        return Script.writing(3, Script.make(1, 2), Script.make(2, 1), Script.make(3, 4), Script.make(4, 0),
            Script.open());
    }

    private static void hiddenLocals() {
        for (int y : new int[] {1, 2, 3}) {
            due("COPY of a hidden one", inBlock(), Script.copy(5, y), 5);
            due("MOVE of a hidden one", inBlock(), Script.move(5, y), 5);
            due("MOVE of a hidden one onto itself", inBlock(), Script.move(y, y), 5);
            due("SHOW of a hidden one", inBlock(), Script.show(y), 5);
            due("ADD to a hidden one", inBlock(), Script.grow(y, 1), 5);
            due("SHUT with a hidden one", inBlock(), Script.shut(5, y), 5);
            due("SEND of a hidden one", inBlock(), Script.send(0, 0, y), 5);
            due("GET from a hidden one", inBlock(), Script.get(5, y, 5), 5);
            due("PUT to a hidden one", inBlock(), Script.put(y, 5, 4), 5);
            due("PUT of a hidden one", inBlock(), Script.put(4, 5, y), 5);
            due("SWAP with a hidden y", inBlock(), Script.swap(5, y, 5, 4), 5);
            due("SWAP with a hidden z", inBlock(), Script.swap(5, 4, 5, y), 5);
            due("SWAP with a hidden y = z", inBlock(), Script.swap(5, y, 5, y), 5);
            due("a hidden x is fine", inBlock(), Script.copy(y, 4), 0);
        }
        due("GET from THIS", inBlock(), Script.get(5, 6, 5), 5);
        due("PUT to THIS", inBlock(), Script.put(6, 5, 4), 5);
        due("SWAP with THIS", inBlock(), Script.swap(5, 6, 5, 4), 5);
        due("GET from THIS outside", Script.writing(3), Script.get(5, 6, 5), 0);
        due("an ISO is not hidden", inBlock(), Script.copy(5, 4), 0);
        due("a VAL is not hidden", inBlock(), Script.copy(5, 0), 0);
        due("an empty one is not hidden", inBlock(), Script.copy(5, 5), 6);
        CountedActors m = inBlock();
        Script.addAll(m, Script.make(1, 2));
        due("one that became something", m, Script.grow(1, 1), 0);
        due("the others are hidden still", m, Script.grow(2, 1), 5);
        due("hidden, before empty", inBlock(), Script.put(1, 5, 5), 5);
        due("hidden, before empty, the other way", inBlock(), Script.put(5, 5, 1), 5);
        Script.addAll(m, Script.shut(5, 1));
        due("nothing is hidden behind the block", m, Script.grow(2, 1), 0);
        due("nor is THIS", m, Script.get(0, 6, 5), 0);
    }

    private static void emptyLocals() {
        Function<int[], CountedActors> machine = s -> Script.writing(5, Script.make(1, 2));
        int[][] statements = {
            Script.copy(2, 3), Script.move(2, 3), Script.get(2, 3, 5), Script.put(3, 5, 1), Script.put(1, 5, 3),
            Script.put(6, 5, 3), Script.swap(2, 3, 5, 1), Script.swap(2, 1, 5, 3), Script.swap(2, 6, 5, 3),
            Script.grow(3, 1), Script.show(3), Script.send(0, 0, 3), Script.swap(2, 1, 5, 1), Script.swap(2, 3, 5, 3),
            Script.swap(2, 0, 5, 0)
        };
        for (int[] s : statements) {
            due("empty, or y = z", machine.apply(s), s, 6);
        }
        due("PUT with y = z", machine.apply(null), Script.put(1, 2, 1), 0);
        CountedActors m = Script.writing(5, Script.open());
        due("SHUT of an empty one", m, Script.shut(1, 3), 6);
        due("emptied by MOVE", Script.writing(5, Script.move(1, 0)), Script.copy(2, 0), 6);
        due("emptied by SEND", Script.writing(5, Script.send(0, 0, 0)), Script.copy(2, 0), 6);
        due("emptied by SWAP", Script.writing(5, Script.swap(1, 6, 5, 0)), Script.copy(2, 0), 6);
        due("emptied by SHUT", Script.writing(5, Script.open(), Script.shut(1, 0)), Script.copy(2, 0), 6);
    }

    private static void readableAndWritable() {
        for (int c = 0; c < 6; c++) {
            int readable = c == 5 ? 7 : 0;
            int writable = c > 2 ? 7 : 0;
            int[] one = Script.make(1, c);
            due("GET from " + c, Script.writing(5, one), Script.get(2, 1, 3), readable);
            due("SHOW of " + c, Script.writing(5, one), Script.show(1), readable);
            due("ADD to " + c, Script.writing(5, one), Script.grow(1, 3), writable);
            due("PUT to " + c, Script.writing(5, one), Script.put(1, 5, 0), writable);
            due("SWAP with " + c, Script.writing(5, one), Script.swap(2, 1, 5, 0), writable);
            due("COPY of " + c, Script.writing(5, one), Script.copy(2, 1), 0);
            due("MOVE of " + c, Script.writing(5, one), Script.move(2, 1), 0);
            due("SEND of " + c + " as TAG", Script.writing(5, one), Script.send(0, 0, 1), 0);
            due("SHUT of " + c, Script.writing(5, Script.open(), one), Script.shut(2, 1), 0);
        }
    }

    /** Field 5 takes whatever fits TAG, which is all, so that only safety is in question. */
    private static void safeSources() {
        String[] safe = {"035", "0351", "012345"};
        for (int into = 0; into < 3; into++) {
            for (int c = 0; c < 6; c++) {
                CountedActors m = Script.writing(5, Script.make(1, into), Script.make(2, c));
                due("PUT of " + c + " into " + into, m, Script.put(1, 5, 2), has(safe[into], ALIAS[c]) ? 0 : 8);
                due("SWAP of " + c + " into " + into, m, Script.swap(3, 1, 5, 2), has(safe[into], c) ? 0 : 8);
            }
        }
    }

    private static boolean has(String set, int c) {
        return set.indexOf('0' + c) >= 0;
    }

    private static void fittingSources() {
        for (int c = 0; c < 6; c++) {
            for (int f = 0; f < 6; f++) {
                CountedActors m = Script.writing(5, Script.make(2, c));
                due("PUT of " + c, m, Script.put(6, f, 2), has(FITS[ALIAS[c]], f) ? 0 : 9);
                due("SWAP of " + c, m, Script.swap(3, 6, f, 2), has(FITS[c], f) ? 0 : 9);
            }
            for (int k : new int[] {0, 3, 5}) {
                CountedActors m = Script.writing(k, Script.make(2, c));
                due("SEND of " + c + " as " + k, m, Script.send(1, 0, 2), has(FITS[c], k) ? 0 : 9);
                CountedActors other = new CountedActors(2);
                Script.behaviour(other, k);
                other.begin(5);
                Script.addAll(other, Script.make(2, c));
                due("SEND of " + c + " to another as " + k, other, Script.send(1, 0, 2), has(FITS[c], k) ? 0 : 9);
            }
        }
    }

    private static void theFirstReasonCounts() {
        CountedActors full = Script.writing(3, Script.make(1, 0), Script.make(1, 0), Script.make(1, 0),
            Script.make(1, 0), Script.make(1, 0), Script.make(1, 0), Script.make(1, 0), Script.make(1, 0),
            Script.make(1, 0), Script.open());
        due("2 before 4", full, Script.open(), 2);
        due("2 before 6", full, Script.copy(2, 3), 2);
        due("3 before 4", Script.writing(3), Script.shut(6, 0), 3);
        due("4 before 6", Script.writing(3), Script.shut(1, 2), 4);
        due("3 before 5", inBlock(), Script.get(6, 1, 0), 3);
        due("3 before 6", Script.writing(3), Script.put(5, 6, 5), 3);
        due("5 before 6", inBlock(), Script.swap(0, 1, 0, 5), 5);
        due("5 before 7", inBlock(), Script.put(0, 5, 1), 5);
        due("5 before 8 and 9", inBlock(), Script.put(4, 0, 1), 5);
        due("6 before 7", Script.writing(3), Script.put(0, 0, 2), 6);
        due("6 for y = z before 7", Script.writing(3), Script.swap(1, 0, 0, 0), 6);
        due("6 before 9", Script.writing(0), Script.send(0, 0, 2), 6);
        due("7 before 8", Script.writing(3, Script.make(1, 2)), Script.put(0, 5, 1), 7);
        due("7 before 9", Script.writing(3, Script.make(1, 3)), Script.put(0, 0, 1), 7);
        due("8 before 9", Script.writing(0, Script.make(1, 2)), Script.put(0, 0, 1), 8);
        due("8 before 9 in SWAP", Script.writing(0, Script.make(1, 1)), Script.swap(2, 0, 0, 1), 8);
    }

    private static void refusedChangesNothing() {
        CountedActors m = Script.writing(3, Script.make(1, 2), Script.make(2, 0));
        int[][] refused = {
            {11, 3, 0, 0, 0}, Script.make(6, 0), Script.shut(3, 2), Script.copy(3, 4), Script.swap(3, 2, 0, 2),
            Script.swap(3, 0, 0, 2), Script.swap(3, 2, 5, 1), Script.swap(3, 6, 0, 1), Script.send(0, 0, 1)
        };
        int[] why = {3, 3, 4, 6, 6, 7, 8, 9, 9};
        for (int i = 0; i < refused.length; i++) {
            due("to be refused", m, refused[i], why[i]);
            int[] want = {3, 2, 0, -1, -1, -1};
            for (int x = 0; x < 6; x++) {
                CHECK.due("holds(" + x + ") behind a refused one", m.holds(x), want[x]);
            }
        }
        CHECK.due("end()", m.end(), true);
        Script.call(m, 0, 0);
        CHECK.due("owner(1)", m.owner(1), 0);
        CHECK.due("owner(2)", m.owner(2), -1);
        CHECK.due("waiting(0)", m.waiting(0), 0);
    }
}
