/** The reasons why a statement is refused: each at its edge, and which of two comes first. */
public final class EdgeRefusalTest extends Script {
    private static final Check CHECK = new Check("EdgeRefusalTest");

    public static void main(String[] args) {
        Sentences.runAll(EdgeRefusalTest.class, CHECK);
    }

    private static void due(String what, CountedActors m, int[] s, int want) {
        CHECK.due(what + ": " + named(s), add(m, s), want);
    }

    /** Ten statements, the last of which begins a block: local 0 VAL, 1 a hidden REF, the others empty. */
    private static CountedActors full() {
        return writing(VAL, make(1, REF), grow(1, 1), grow(1, 1), grow(1, 1), grow(1, 1), grow(1, 1), grow(1, 1),
            grow(1, 1), grow(1, 1), open());
    }

    /** An open block: local 0 VAL, 1 a hidden REF, 2 a hidden TRN, 3 a hidden BOX, 4 ISO, 5 empty. */
    private static CountedActors inBlock() {
        return writing(VAL, make(1, REF), make(2, TRN), make(3, BOX), make(4, ISO), open());
    }

    @Sentence({"`int add(int op, int x, int y, int f, int z)`: Adds a statement to the open behaviour: 0, ",
        "1 no behaviour is open."})
    private static void noneIsOpen() {
        CountedActors m = new CountedActors(1);
        due("none begun", m, make(1, REF), 1);
        m.begin(ISO);
        due("one open", m, make(1, REF), 0);
        m.end();
        due("it has ended", m, make(1, REF), 1);
        m.begin(ISO);
        due("the next open", m, make(1, REF), 0);
        m.drop();
        due("it was dropped", m, make(1, REF), 1);
        m.begin(TAG);
        addAll(m, open());
        m.end();
        due("it could not end", m, make(1, REF), 0);
        for (int b = 1; b < 6; b++) {
            m.drop();
            behaviour(m, TAG);
        }
        m.begin(TAG);
        due("a seventh was not begun", m, make(1, REF), 1);
    }

    @Sentence("2 The open one has 10 statements.")
    private static void tenStatements() {
        CountedActors m = writing(TAG);
        for (int has = 0; has < 10; has++) {
            due("behind " + has + ", refused for another reason", m, copy(1, 5), 6);
            due("behind " + has, m, make(1, REF), 0);
        }
        int[][] all = {make(1, REF), copy(1, 1), move(1, 1), get(1, 1, 0), put(1, 2, 1), swap(1, THIS, 2, 1), grow(1, 1),
            show(1), send(0, 0, 1), open(), shut(1, 1)};
        for (int[] s : all) {
            due("behind 10", m, s, 2);
        }
        m.drop();
        m.begin(TAG);
        due("the next one has none", m, make(1, REF), 0);
        m.end();
        m.begin(TAG);
        due("nor has the one after it", m, make(1, REF), 0);
    }

    @Sentence("4 OPEN in a block, or SHUT outside of one.")
    private static void blocks() {
        CountedActors m = writing(ISO);
        due("SHUT before a block", m, shut(0, 0), 4);
        due("OPEN", m, open(), 0);
        due("OPEN in the block", m, open(), 4);
        due("SHUT", m, shut(0, 0), 0);
        due("SHUT behind the block", m, shut(0, 0), 4);
        due("OPEN of a second block", m, open(), 0);
        due("OPEN in the second block", m, open(), 4);
        due("SHUT of the second block", m, shut(0, 0), 0);
        due("SHUT behind the second block", m, shut(0, 0), 4);
    }

    @Sentence("5 y (in 1 .. 7 and 10) or z (in 4, 5, 8) is hidden.")
    private static void hidden() {
        for (int h : numbers(1, 2, 3)) {
            int[][] withY = {copy(5, h), move(5, h), get(5, h, TAG), put(h, TAG, 4), swap(5, h, TAG, 4), grow(h, 1), show(h),
                shut(5, h)};
            int[][] withZ = {put(4, TAG, h), swap(5, 4, TAG, h), send(0, 0, h)};
            for (int[] s : withY) {
                due("a hidden y", inBlock(), s, 5);
            }
            for (int[] s : withZ) {
                due("a hidden z", inBlock(), s, 5);
            }
            int[][] withX = {make(h, REF), copy(h, 4), move(h, 4), get(h, 4, TAG), swap(h, 4, TAG, 0), shut(h, 4)};
            for (int[] s : withX) {
                due("a hidden x", inBlock(), s, 0);
            }
        }
        for (int[] s : new int[][] {get(5, THIS, TAG), put(THIS, TAG, 4), swap(5, THIS, TAG, 4)}) {
            due("THIS in a block", inBlock(), s, 5);
            due("THIS outside of one", writing(TAG, make(4, ISO)), s, 0);
        }
        for (int seen : numbers(0, 4)) {
            due("a sendable y", inBlock(), copy(5, seen), 0);
            due("a sendable z", inBlock(), put(4, TAG, seen), 0);
        }
    }

    @Sentence("6 One of these is empty; or SWAP with y = z.")
    private static void empty() {
        int[][] withY = {copy(2, 5), move(2, 5), get(2, 5, TAG), put(5, TAG, 1), swap(2, 5, TAG, 1), grow(5, 1), show(5)};
        int[][] withZ = {put(1, TAG, 5), put(THIS, TAG, 5), swap(2, 1, TAG, 5), swap(2, THIS, TAG, 5), send(0, 0, 5)};
        for (int[][] row : new int[][][] {withY, withZ}) {
            for (int[] s : row) {
                due("an empty one", writing(TAG, make(1, REF)), s, 6);
                due("the same, not empty", writing(TAG, make(1, REF), make(5, REF)), s, 0);
                due("emptied", writing(TAG, make(1, REF), make(5, REF), move(3, 5)), s, 6);
            }
        }
        due("SHUT of an empty one", writing(TAG, open()), shut(1, 5), 6);
        due("SHUT of one that is not", writing(TAG, open(), make(5, REF)), shut(1, 5), 0);
        int[][] withX = {make(5, REF), copy(5, 1), move(5, 1), get(5, 1, TAG), swap(5, THIS, TAG, 1)};
        for (int[] s : withX) {
            due("an empty x", writing(TAG, make(1, REF)), s, 0);
        }
        for (int c = ISO; c <= TAG; c++) {
            due("SWAP with y = z", writing(TAG, make(1, c)), swap(2, 1, TAG, 1), 6);
            due("SWAP with x = y = z", writing(TAG, make(1, c)), swap(1, 1, TAG, 1), 6);
            due("PUT with y = z", writing(TAG, make(1, c)), put(1, TAG, 1), c == TRN ? 8 : c <= REF ? 0 : 7);
        }
        due("SWAP with y next to z", writing(TAG, make(1, REF), make(2, REF)), swap(3, 1, TAG, 2), 0);
    }

    @Sentence("7 y is not readable, or not writable, where it must be.")
    private static void notAble() {
        for (int c = ISO; c <= TAG; c++) {
            int readable = c <= BOX ? 0 : 7;
            int writable = c <= REF ? 0 : 7;
            due("GET", writing(TAG, make(1, c)), get(2, 1, TAG), readable);
            due("SHOW", writing(TAG, make(1, c)), show(1), readable);
            due("PUT", writing(TAG, make(1, c)), put(1, TAG, 0), writable);
            due("SWAP", writing(TAG, make(1, c)), swap(2, 1, TAG, 0), writable);
            due("ADD", writing(TAG, make(1, c)), grow(1, 1), writable);
            due("COPY", writing(TAG, make(1, c)), copy(2, 1), 0);
            due("MOVE", writing(TAG, make(1, c)), move(2, 1), 0);
            due("SHUT", writing(TAG, open(), make(1, c)), shut(2, 1), 0);
            due("SEND", writing(TAG, make(1, c)), send(0, 0, 1), 0);
            due("PUT of it", writing(TAG, make(1, c)), put(THIS, TAG, 1), 0);
            due("SWAP of it", writing(TAG, make(1, c)), swap(2, THIS, TAG, 1), 0);
        }
    }

    /** Field TAG takes all that is safe. */
    @Sentence("8 In PUT and SWAP: the source is not SAFE for y's capability: for ISO sendable ones are safe; "
        + "for TRN these and TRN; for REF all.")
    private static void notSafe() {
        int[][] swap = {{0, 8, 8, 0, 8, 0}, {0, 0, 8, 0, 8, 0}, {0, 0, 0, 0, 0, 0}};
        int[][] put = {{0, 8, 8, 0, 8, 0}, {0, 8, 8, 0, 8, 0}, {0, 0, 0, 0, 0, 0}};
        for (int y = ISO; y <= REF; y++) {
            for (int z = ISO; z <= TAG; z++) {
                due(z + " into " + y, writing(TAG, make(1, y), make(2, z)), swap(3, 1, TAG, 2), swap[y][z]);
                due(z + " into " + y, writing(TAG, make(1, y), make(2, z)), put(1, TAG, 2), put[y][z]);
                due(z + " into THIS", writing(TAG, make(2, z)), swap(3, THIS, TAG, 2), 0);
                due(z + " into THIS", writing(TAG, make(2, z)), put(THIS, TAG, 2), 0);
            }
        }
    }

    @Sentence("9 In PUT and SWAP: the source does not fit f; "
        + "in SEND: it does not fit the capability of behaviour y's parameter.")
    private static void notFitting() {
        String[] fits = {"012345", "12345", "245", "345", "45", "5"};
        int[] alias = {TAG, BOX, REF, VAL, BOX, TAG};
        for (int z = ISO; z <= TAG; z++) {
            for (int f = ISO; f <= TAG; f++) {
                int moved = fits[z].indexOf('0' + f) >= 0 ? 0 : 9;
                int copied = fits[alias[z]].indexOf('0' + f) >= 0 ? 0 : 9;
                due("into a REF", writing(TAG, make(1, REF), make(2, z)), swap(3, 1, f, 2), moved);
                due("into a REF", writing(TAG, make(1, REF), make(2, z)), put(1, f, 2), copied);
                due("into THIS", writing(TAG, make(2, z)), swap(3, THIS, f, 2), moved);
                due("into THIS", writing(TAG, make(2, z)), put(THIS, f, 2), copied);
                if (f == ISO || f == VAL || f == TAG) {
                    due(z + " to the open one, " + f, writing(f, make(2, z)), send(0, 0, 2), moved);
                    CountedActors m = new CountedActors(1);
                    behaviour(m, f);
                    m.begin(f == TAG ? ISO : TAG);
                    addAll(m, make(2, z));
                    due(z + " to a finished one, " + f, m, send(0, 0, 2), moved);
                }
            }
        }
    }

    private static void allReasonsAfterTheFirst(String what, CountedActors m, int want) {
        int[][] each = {{11, 0, 0, 0, 0}, make(6, REF), open(), shut(2, 0), grow(1, 1), grow(5, 1), grow(0, 1),
            put(THIS, ISO, 0), send(0, 0, 5)};
        for (int[] s : each) {
            due(what, m, s, want);
        }
    }

    /** Pairs that the document lets hold at once; the others, as 4 with 5, can't. */
    @Sentence({"A STATEMENT IS REFUSED, the first of these that holds giving the answer of add: ",
        "or the number 1 .. 9 of why it is refused."})
    private static void theFirstThatHolds() {
        allReasonsAfterTheFirst("1 before the others", new CountedActors(1), 1);
        allReasonsAfterTheFirst("2 before the others", full(), 2);
        due("3 before 4", writing(TAG), shut(6, 0), 3);
        due("3 before 4", writing(TAG), shut(0, 6), 3);
        due("3 before 5", inBlock(), copy(6, 1), 3);
        due("3 before 5", inBlock(), put(1, 6, 4), 3);
        due("3 before 5", inBlock(), put(1, TAG, 6), 3);
        due("3 before 5", inBlock(), send(4, 0, 1), 3);
        due("3 before 6", writing(TAG), copy(6, 5), 3);
        due("3 before 6", writing(TAG), send(0, 1, 5), 3);
        due("3 before 6 for y = z", writing(TAG), swap(1, 0, 6, 0), 3);
        due("3 before 6 for y = z", writing(TAG), swap(1, THIS, TAG, THIS), 3);
        due("3 before 7", writing(TAG), get(6, 0, 0), 3);
        due("3 before 8", writing(TAG, make(1, ISO), make(2, REF)), put(1, 6, 2), 3);
        due("3 before 9", writing(ISO), send(4, 0, 0), 3);
        due("3 before 9", writing(TAG), swap(6, THIS, ISO, 0), 3);
        due("4 before 6", writing(TAG), shut(1, 5), 4);
        due("5 before 6", inBlock(), put(1, TAG, 5), 5);
        due("5 before 6", inBlock(), put(5, TAG, 1), 5);
        due("5 before 6", inBlock(), swap(5, THIS, TAG, 5), 5);
        due("5 before 6 for y = z", inBlock(), swap(5, 1, TAG, 1), 5);
        due("5 before 7", inBlock(), put(0, TAG, 1), 5);
        due("5 before 7", inBlock(), grow(3, 1), 5);
        due("5 before 8", inBlock(), put(4, TAG, 1), 5);
        due("5 before 9", writing(ISO, make(1, BOX), open()), send(0, 0, 1), 5);
        due("5 before 9", inBlock(), put(THIS, ISO, 0), 5);
        due("6 before 7", writing(TAG), put(0, TAG, 5), 6);
        due("6 before 7", writing(TAG), swap(1, 0, TAG, 5), 6);
        due("6 for y = z before 7", writing(TAG), swap(1, 0, TAG, 0), 6);
        due("6 before 9", writing(ISO), send(0, 0, 5), 6);
        due("6 for y = z before 9", writing(TAG, make(1, REF)), swap(2, 1, ISO, 1), 6);
        due("7 before 8", writing(VAL, make(1, REF)), swap(2, 0, TAG, 1), 7);
        due("7 before 9", writing(TAG), put(0, ISO, 0), 7);
        due("7 before 9", writing(VAL, make(1, TAG)), swap(2, 0, ISO, 1), 7);
        due("8 before 9", writing(ISO, make(1, REF)), put(0, ISO, 1), 8);
        due("8 before 9", writing(ISO, make(1, TRN)), swap(2, 0, ISO, 1), 8);
        due("8 before 9", writing(TAG, make(1, TRN), make(2, BOX)), swap(3, 1, VAL, 2), 8);
    }
}
