import java.util.ArrayList;
import java.util.List;

/**
 * All promises at once: long runs of calls on a machine and on the model, answer by answer. The
 * runs are the same each time. None goes beyond the 512 calls for which the document speaks.
 */
public final class ModelTest {
    private static final int RUNS = 6000;
    private static final int CALLS = 512;
    /** How many calls a sweep takes, and how many an act may take. */
    private static final int SWEEP = 303;
    private static final int MOST_IN_ONE_ACT = 40;
    private static final int[] ODD = {-2147483648, -2, -1, 6, 7, 11, 15, 16, 17, 2147483647};
    /** Statements that move objects about come up more often. */
    private static final int[] OPS = {0, 0, 0, 1, 2, 3, 3, 4, 4, 4, 5, 5, 5, 6, 7, 8, 8, 8, 8, 9, 10, 10};

    private final Check check = new Check("ModelTest");
    private long state = 1;
    private CountedActors machine;
    private Model model;
    private String run;
    private int left;
    /** Locals of the open behaviour that are likely to hold an object. */
    private final List<Integer> solid = new ArrayList<>();

    public static void main(String[] args) {
        ModelTest test = new ModelTest();
        for (int seed = 1; seed <= RUNS && test.check.isRight(); seed++) {
            test.oneRun(seed);
        }
        test.check.finish();
    }

    /** A number from 0 to bound - 1, from a fixed row of numbers. */
    private int any(int bound) {
        state = state * 6364136223846793005L + 1442695040888963407L;
        return (int) ((state >>> 33) % bound);
    }

    /** Mostly a number below the bound, now and then an odd one. */
    private int number(int bound) {
        return any(25) == 0 ? ODD[any(ODD.length)] : any(bound);
    }

    private void oneRun(int seed) {
        state = seed;
        int n = any(8) == 0 ? ODD[any(ODD.length)] : any(6);
        machine = new CountedActors(n);
        model = new Model(n);
        run = "run " + seed + " of " + n + " actors: ";
        left = CALLS;
        int behaviours = 1 + any(6);
        for (int b = 0; b < behaviours; b++) {
            write();
        }
        boolean sweeps = any(2) == 0;
        while (left > MOST_IN_ONE_ACT + (sweeps ? SWEEP : 0)) {
            act();
        }
        if (sweeps) {
            sweep();
        }
        if (left < 0) {
            throw new IllegalStateException(run + "too many calls");
        }
    }

    private void due(String call, int got, int want) {
        left--;
        check.due(run + "with " + left + " calls left " + call, got, want);
    }

    private void due(String call, boolean got, boolean want) {
        due(call, got ? 1 : 0, want ? 1 : 0);
    }

    private void write() {
        int k = new int[] {0, 3, 5, 0, 3, 5, any(8) - 1}[any(7)];
        due("begin(" + k + ")", machine.begin(k), model.begin(k));
        solid.clear();
        opening();
        int statements = any(12);
        for (int i = 0; i < statements; i++) {
            add(statement());
            int x = number(6);
            if (any(4) == 0) {
                due("holds(" + x + ")", machine.holds(x), model.holds(x));
            }
        }
        if (any(12) == 0) {
            due("drop()", machine.drop(), model.drop());
        }
        boolean ended = model.end();
        due("end()", machine.end(), ended);
        if (!ended && any(2) == 0) {
            add(statement());
            due("end()", machine.end(), model.end());
        }
        if (any(6) == 0) {
            due("begin(0)", machine.begin(0), model.begin(0));
        }
    }

    /** Begins most behaviours so that objects are made, stored and passed on, and not NONE alone. */
    private void opening() {
        switch (any(4)) {
            case 0 -> {
                for (int x = 1; x < 4; x++) {
                    add(new int[] {0, x, 0, any(6), 0});
                }
            }
            case 1 -> add(new int[] {5, 1, 6, any(6), 0});
            case 2 -> add(any(2) == 0 ? new int[] {3, 1, 6, any(6), 0} : new int[] {5, 1, 6, any(6), 0});
            default -> {
            }
        }
    }

    /** A statement, mostly one that will be accepted. */
    private int[] statement() {
        int[] s = null;
        int tries = any(5) == 0 ? 1 : 40;
        for (int i = 0; i < tries; i++) {
            s = new int[] {number(11), number(6), local(), number(6), local()};
            if (any(20) != 0) {
                s[0] = OPS[any(OPS.length)];
            }
            if (s[0] == 8 && any(3) != 0) {
                s[1] = any(4);
                s[2] = any(6);
            } else if (s[0] >= 3 && s[0] <= 5 && any(3) == 0) {
                s[2] = 6;
            }
            if (model.refusal(s[0], s[1], s[2], s[3], s[4]) == 0) {
                break;
            }
        }
        return s;
    }

    /** A local, mostly one that will hold an object when the behaviour runs. */
    private int local() {
        return solid.isEmpty() || any(3) == 0 ? number(7) : solid.get(any(solid.size()));
    }

    private void add(int[] s) {
        String call = "add(" + s[0] + ", " + s[1] + ", " + s[2] + ", " + s[3] + ", " + s[4] + ")";
        int want = model.add(s[0], s[1], s[2], s[3], s[4]);
        due(call, machine.add(s[0], s[1], s[2], s[3], s[4]), want);
        if (want != 0) {
            return;
        }
        boolean isSolid = s[0] == 0 || (s[0] <= 2 || s[0] == 10) && solid.contains(s[2]);
        if (s[0] <= 3 || s[0] == 5 || s[0] == 10) {
            solid.remove((Integer) s[1]);
            if (isSolid) {
                solid.add(s[1]);
            }
        }
    }

    private void act() {
        int a = number(4);
        int b = number(6);
        switch (any(12)) {
            case 0, 1, 2 -> due("post(" + a + ", " + b + ")", machine.post(a, b), model.post(a, b));
            case 3, 4, 5, 6 -> due("step(" + a + ")", machine.step(a), model.step(a));
            case 7 -> due("collect(" + a + ")", machine.collect(a), model.collect(a));
            case 8 -> {
                if (any(12) == 0) {
                    write();
                } else {
                    due("step(" + a + ")", machine.step(a), model.step(a));
                }
            }
            default -> look(any(10), a, number(16), number(6));
        }
    }

    private void look(int what, int a, int o, int k) {
        String ao = "(" + a + ", " + o + ")";
        switch (what) {
            case 0 -> due("waiting(" + a + ")", machine.waiting(a), model.waiting(a));
            case 1 -> due("owner(" + o + ")", machine.owner(o), model.owner(o));
            case 2 -> due("cell(" + o + ")", machine.cell(o), model.cell(o));
            case 3 -> due("count" + ao, machine.count(a, o), model.count(a, o));
            case 4 -> due("field(" + a + ", " + k + ")", machine.field(a, k), model.field(a, k));
            case 5 -> due("inner(" + o + ", " + k + ")", machine.inner(o, k), model.inner(o, k));
            case 6 -> due("rights" + ao, machine.rights(a, o), model.rights(a, o));
            case 7 -> due("shown(" + o + ")", machine.shown(o), model.shown(o));
            case 8 -> due("garbage()", machine.garbage(), model.garbage());
            default -> due("lost()", machine.lost(), model.lost());
        }
    }

    private void sweep() {
        for (int a = 0; a < 4; a++) {
            look(0, a, 0, 0);
            for (int k = 0; k < 6; k++) {
                look(4, a, 0, k);
            }
            for (int o = 0; o < 16; o++) {
                look(3, a, o, 0);
                look(6, a, o, 0);
            }
        }
        for (int o = 0; o < 16; o++) {
            look(1, 0, o, 0);
            look(2, 0, o, 0);
            look(7, 0, o, 0);
            for (int k = 0; k < 6; k++) {
                look(5, 0, o, k);
            }
        }
        look(7, 0, -1, 0);
        look(8, 0, 0, 0);
        look(9, 0, 0, 0);
    }
}
