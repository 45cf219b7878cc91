import java.util.LinkedHashMap;
import java.util.Map;
import java.util.function.Consumer;
import java.util.function.Supplier;

/**
 * Two machines with the same past, one of which is asked something that must change nothing: what
 * all other calls answer afterwards has to be the same for both.
 */
final class Twins {
    private final Check check;

    Twins(Check check) {
        this.check = check;
    }

    /** A past may take some 150 calls; with what is asked here a machine stays below its 512. */
    void staySame(String what, Supplier<CountedActors> past, Consumer<CountedActors> call) {
        CountedActors asked = past.get();
        CountedActors other = past.get();
        call.accept(asked);
        compare(what + ", then ", looks(asked), looks(other));
        asked = past.get();
        other = past.get();
        call.accept(asked);
        compare(what + ", then, later, ", goOn(asked), goOn(other));
    }

    private void compare(String what, Map<String, Integer> got, Map<String, Integer> want) {
        want.forEach((call, answer) -> check.due(what + call, got.get(call), answer));
    }

    /** All that can be seen without changing anything. */
    static Map<String, Integer> looks(CountedActors m) {
        Map<String, Integer> answers = new LinkedHashMap<>();
        for (int x = 0; x < 6; x++) {
            answers.put("holds(" + x + ")", m.holds(x));
        }
        for (int a = 0; a < 4; a++) {
            answers.put("waiting(" + a + ")", m.waiting(a));
            for (int o = 0; o < 16; o++) {
                answers.put("rights(" + a + ", " + o + ")", m.rights(a, o));
            }
        }
        for (int o = 0; o < 16; o++) {
            for (int k = 0; k < 6; k++) {
                answers.put("inner(" + o + ", " + k + ")", m.inner(o, k));
            }
        }
        answers.put("garbage()", m.garbage());
        lookAtState(m, answers);
        return answers;
    }

    private static void lookAtState(CountedActors m, Map<String, Integer> answers) {
        for (int a = 0; a < 4; a++) {
            for (int k = 0; k < 6; k++) {
                answers.put("field(" + a + ", " + k + ")", m.field(a, k));
            }
            for (int o = 0; o < 16; o++) {
                answers.put("count(" + a + ", " + o + ")", m.count(a, o));
            }
        }
        for (int o = 0; o < 16; o++) {
            answers.put("owner(" + o + ")", m.owner(o));
            answers.put("cell(" + o + ")", m.cell(o));
        }
        for (int k = -1; k < 16; k++) {
            answers.put("shown(" + k + ")", m.shown(k));
        }
        answers.put("lost()", m.lost());
    }

    /** What can only be seen by going on: the open behaviour, the messages, the finished behaviours. */
    private static Map<String, Integer> goOn(CountedActors m) {
        Map<String, Integer> answers = new LinkedHashMap<>();
        answers.put("SHUT", m.add(10, 5, 0, 0, 0));
        answers.put("NEW", m.add(0, 4, 0, 2, 0));
        answers.put("SHOW", m.add(7, 0, 4, 0, 0));
        answers.put("end()", m.end() ? 1 : 0);
        answers.put("drop()", m.drop() ? 1 : 0);
        answers.put("begin(5)", m.begin(5));
        answers.put("end() of that one", m.end() ? 1 : 0);
        int call = 0;
        for (int round = 0; round < 20; round++) {
            for (int a = 0; a < 4; a++) {
                answers.put("step " + ++call + " by " + a, m.step(a));
            }
        }
        for (int b = 0; b < 6; b++) {
            answers.put("post of " + b, m.post(b % 3, b) ? 1 : 0);
            answers.put("step of " + b, m.step(b % 3));
        }
        for (int a = 0; a < 3; a++) {
            answers.put("collect(" + a + ")", m.collect(a));
        }
        lookAtState(m, answers);
        return answers;
    }
}
