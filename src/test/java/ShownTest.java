/** Promise 17: shown. */
public final class ShownTest {
    private static final Check CHECK = new Check("ShownTest");

    public static void main(String[] args) {
        CountedActors m = new CountedActors(2);
        int make = Script.behaviour(m, 5, Script.make(1, 2), Script.put(6, 2, 1));
        int show = Script.behaviour(m, 5, Script.get(1, 6, 2), Script.grow(1, 1), Script.show(1));
        Script.call(m, 1, make);
        for (int times = 0; times <= 20; times++) {
            look(m, times);
            Script.call(m, 1, show);
        }
        wrongInputs(m);
        everyReadableCapability();
        CHECK.finish();
    }

    private static void look(CountedActors m, int times) {
        CHECK.due("shown(-1)", m.shown(-1), times);
        for (int k = 0; k < 16; k++) {
            CHECK.due("shown(" + k + ") of " + times, m.shown(k), k < times ? times - k : 0);
        }
    }

    private static void wrongInputs(CountedActors m) {
        for (int k : new int[] {Integer.MIN_VALUE, -17, -16, -3, -2, 16, 17, 20, 32, Integer.MAX_VALUE}) {
            CHECK.due("shown(" + k + ")", m.shown(k), 0);
        }
    }

    private static void everyReadableCapability() {
        CountedActors m = new CountedActors(1);
        for (int c = 0; c < 5; c++) {
            Script.call(m, 0, Script.behaviour(m, 5, Script.make(1, 2), Script.grow(1, 30 + c), Script.make(2, c),
                Script.show(2), Script.show(1)));
            CHECK.due("shown(0)", m.shown(0), 30 + c);
            CHECK.due("shown(1)", m.shown(1), 0);
            CHECK.due("shown(-1)", m.shown(-1), 2 * c + 2);
        }
    }
}
