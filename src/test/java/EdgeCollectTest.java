/** The edges of collecting: what is kept, counts about 0, room for lowers, and what is garbage. */
public final class EdgeCollectTest extends Script {
    private static final Check CHECK = new Check("EdgeCollectTest");
    private static final int MIN = Integer.MIN_VALUE;
    private static final int MAX = Integer.MAX_VALUE;

    public static void main(String[] args) {
        Sentences.runAll(EdgeCollectTest.class, CHECK);
    }

    private static void owners(String when, CountedActors m, int... want) {
        for (int o = 0; o < want.length; o++) {
            CHECK.due(when + ": owner(" + o + ")", m.owner(o), want[o]);
        }
    }

    /** Field i of the actor holds object 0, field j of that object 1, field k of that object 2. */
    private static CountedActors nested(int i, int j, int k) {
        return ran(make(1, ISO), make(2, ISO), make(3, ISO), swap(4, 2, k, 3), swap(4, 1, j, 2), swap(4, THIS, i, 1));
    }

    @Sentence("COLLECTING by actor a: KEPT are the objects in the closures of what a's fields hold, "
        + "of field k by capability k.")
    private static void kept() {
        for (int i = ISO; i <= TAG; i++) {
            for (int j = ISO; j <= TAG; j++) {
                for (int k = ISO; k <= TAG; k++) {
                    CountedActors m = nested(i, j, k);
                    String way = "held by " + i + ", " + j + ", " + k;
                    int freed = i == TAG ? 2 : j == TAG ? 1 : 0;
                    CHECK.due(way + ": collect(0)", m.collect(0), freed);
                    owners(way, m, 0, freed < 2 ? 0 : -1, freed < 1 ? 0 : -1);
                    CHECK.due(way + ": field(0, " + i + ")", m.field(0, i), 0);
                    CHECK.due(way + ": inner(0, " + j + ")", m.inner(0, j), freed < 2 ? 1 : -1);
                    CHECK.due(way + ": inner(1, " + k + ")", m.inner(1, k), freed < 1 ? 2 : -1);
                    CHECK.due(way + ": collect(0) again", m.collect(0), 0);
                }
            }
        }
        // Held by TAG and, further on, readably: the closure goes on from there.
        CountedActors m = ran(make(1, REF), make(2, REF), make(3, REF), put(2, REF, 3), put(1, REF, 2), put(THIS, TAG, 2),
            put(THIS, REF, 1));
        CHECK.due("collect(0) where one is kept twice", m.collect(0), 0);
        // The fields of another actor keep nothing for this one; the counts do.
        m = new CountedActors(2);
        int make = behaviour(m, TAG, make(1, REF), put(THIS, REF, 1));
        call(m, 0, make);
        call(m, 1, make);
        CHECK.due("collect(0) of what it holds itself", m.collect(0), 0);
        call(m, 0, make);
        CHECK.due("collect(0) of what it does not hold any more", m.collect(0), 1);
        owners("two actors", m, -1, 1, 0);
    }

    /** Actor 0 owns object 0, holds it in field 3 or not, and has sent it so often to actor 1, which keeps it. */
    private static CountedActors sentByOwner(boolean held, int times) {
        CountedActors m = new CountedActors(2);
        int keep = behaviour(m, VAL, put(THIS, VAL, 0));
        int make = behaviour(m, TAG, make(1, VAL), put(THIS, VAL, 1));
        int send = behaviour(m, TAG, get(1, THIS, VAL), send(1, keep, 1));
        call(m, 0, make);
        for (int i = 0; i < times; i++) {
            call(m, 0, send);
            m.step(1);
        }
        if (!held) {
            call(m, 0, keep);
        }
        return m;
    }

    @Sentence("First each object that a owns, that is not kept and for which a's count is 0 is FREED: it is no more, ")
    private static void freed() {
        for (int count : numbers(0, 1, 2)) {
            for (boolean held : new boolean[] {true, false}) {
                CountedActors m = sentByOwner(held, count);
                String when = (held ? "kept" : "not kept") + " with count " + count;
                boolean free = !held && count == 0;
                CHECK.due(when + ": count(0, 0)", m.count(0, 0), count);
                CHECK.due(when + ": collect(1), which does not own it", m.collect(1), 0);
                CHECK.due(when + ": owner(0) before", m.owner(0), 0);
                CHECK.due(when + ": collect(0)", m.collect(0), free ? 1 : 0);
                CHECK.due(when + ": owner(0)", m.owner(0), free ? -1 : 0);
                CHECK.due(when + ": count(0, 0)", m.count(0, 0), free ? -1 : count);
                CHECK.due(when + ": rights(0, 0)", m.rights(0, 0), held ? 3 : 0);
            }
        }
        // Sent to itself: the count is 1 until the call is taken.
        CountedActors m = new CountedActors(1);
        int ignore = behaviour(m, ISO);
        call(m, 0, behaviour(m, TAG, make(1, ISO), send(0, ignore, 1)));
        CHECK.due("collect(0) with the call in its queue", m.collect(0), 0);
        m.step(0);
        CHECK.due("collect(0) with the call taken", m.collect(0), 1);
        // A ring of its own, and one that holds itself.
        m = ran(make(1, REF), make(2, REF), put(1, REF, 2), put(2, REF, 1), make(3, REF), put(3, BOX, 3));
        CHECK.due("collect(0) of rings", m.collect(0), 3);
        owners("rings", m, -1, -1, -1);
    }

    @Sentence("and a field of whatever object that held it holds NONE.")
    private static void fieldsThatHeldIt() {
        for (int k = ISO; k <= TAG; k++) {
            CountedActors m = nested(TAG, k, TAG);
            CHECK.due("collect(0)", m.collect(0), 2);
            CHECK.due("inner(0, " + k + ")", m.inner(0, k), -1);
            call(m, 0, behaviour(m, TAG, make(1, REF)));
            CHECK.due("owner(1), the number used again", m.owner(1), 0);
            CHECK.due("inner(0, " + k + ") does not hold the new one", m.inner(0, k), -1);
        }
        // Several fields of one object.
        CountedActors one = ran(make(1, REF), make(2, REF), put(1, REF, 2), put(1, BOX, 2), put(1, TAG, 2), put(THIS, TAG, 1));
        CHECK.due("collect(0)", one.collect(0), 1);
        for (int k = 0; k < 6; k++) {
            CHECK.due("inner(0, " + k + ")", one.inner(0, k), -1);
        }
        // Each object in turn is the one that stays, by TAG, while the one that it holds is freed.
        for (int last = 1; last < 16; last++) {
            CountedActors chain = new CountedActors(1);
            int next = behaviour(chain, TAG, get(1, THIS, REF), make(2, REF), put(2, TAG, 1), put(2, REF, 1),
                put(THIS, REF, 2));
            int onlyKnow = behaviour(chain, ISO, get(1, THIS, REF), put(THIS, TAG, 1), swap(2, THIS, REF, 0));
            for (int o = 0; o <= last; o++) {
                call(chain, 0, next);
            }
            call(chain, 0, onlyKnow);
            CHECK.due("collect(0) of all but " + last, chain.collect(0), last);
            CHECK.due("field(0, 5)", chain.field(0, TAG), last);
            CHECK.due("inner(" + last + ", 2)", chain.inner(last, REF), -1);
            CHECK.due("inner(" + last + ", 5)", chain.inner(last, TAG), -1);
        }
        // Object 1 of actor 1 is known to actor 2 by TAG alone, and holds object 0 of actor 0.
        CountedActors m = new CountedActors(3);
        int know = behaviour(m, TAG, put(THIS, TAG, 0));
        int take = behaviour(m, ISO, make(1, REF), swap(2, 1, REF, 0), send(1, know, 1));
        call(m, 0, behaviour(m, TAG, make(1, ISO), send(1, take, 1)));
        m.step(1);
        m.step(2);
        CHECK.due("collect(1) frees nothing", m.collect(1), 0);
        CHECK.due("step(0)", m.step(0), LOWER);
        CHECK.due("inner(1, 2) before", m.inner(1, REF), 0);
        CHECK.due("collect(0)", m.collect(0), 1);
        CHECK.due("inner(1, 2) of another actor's object", m.inner(1, REF), -1);
        owners("behind it", m, -1, 1);
    }

    /** Each object but the first holds the one before it in the fields 2 and 5; nothing holds the last. */
    private static CountedActors chainOfSixteen() {
        CountedActors m = new CountedActors(1);
        int next = behaviour(m, TAG, get(1, THIS, REF), make(2, REF), put(2, REF, 1), put(2, TAG, 1), put(THIS, REF, 2));
        for (int o = 0; o < 16; o++) {
            call(m, 0, next);
        }
        call(m, 0, behaviour(m, ISO, swap(1, THIS, REF, 0)));
        return m;
    }

    /** Of 3 actors, actor 2 has the objects 0 of actor 0, 1 of actor 1, 2 of actor 0 with counts 1, 2, 1, none kept. */
    private static CountedActors letGo() {
        CountedActors m = new CountedActors(3);
        int ignore = behaviour(m, TAG);
        int give = behaviour(m, TAG, make(1, TAG), send(2, ignore, 1));
        int twice = behaviour(m, TAG, make(1, TAG), copy(2, 1), send(1, ignore, 1), send(1, ignore, 2));
        call(m, 0, give);
        call(m, 1, twice);
        call(m, 0, give);
        stepTimes(m, 4, 2);
        return m;
    }

    @Sentence({"Then for each object, the least number first, that a does not own, that is not kept and for which a's count "
        + "is not 0: if the queues have room, a lower by that count goes into the queue of its owner, ",
        "and a's count for it becomes 0."})
    private static void lowers() {
        for (int room = 0; room <= 4; room++) {
            CountedActors m = letGo();
            postTimes(m, 20 - room, 2, 0);
            CHECK.due("collect(2) with room for " + room, m.collect(2), 0);
            int[] counts = {1, 2, 1};
            for (int o = 0; o < 3; o++) {
                CHECK.due("count(2, " + o + ") with room for " + room, m.count(2, o), o < room ? 0 : counts[o]);
            }
            CHECK.due("waiting(0) with room for " + room, m.waiting(0), room == 0 ? 0 : room < 3 ? 1 : 2);
            CHECK.due("waiting(1) with room for " + room, m.waiting(1), room < 2 ? 0 : 1);
            CHECK.due("waiting(2) with room for " + room, m.waiting(2), 20 - room);
            CHECK.due("lost() with room for " + room, m.lost(), 0);
        }
        CountedActors m = letGo();
        m.collect(2);
        CHECK.due("collect(2) again: the counts are 0", m.collect(2), 0);
        CHECK.due("waiting(0)", m.waiting(0), 2);
        CHECK.due("step(0): the least number first", m.step(0), LOWER);
        CHECK.due("count(0, 0)", m.count(0, 0), 0);
        CHECK.due("count(0, 2)", m.count(0, 2), 1);
        CHECK.due("step(0)", m.step(0), LOWER);
        CHECK.due("count(0, 2)", m.count(0, 2), 0);
        CHECK.due("step(1): by the whole count", m.step(1), LOWER);
        CHECK.due("count(1, 1)", m.count(1, 1), 0);
        CHECK.due("collect(0)", m.collect(0), 2);
        CHECK.due("collect(1)", m.collect(1), 1);
        // What is kept is not lowered, by whatever field.
        for (boolean held : new boolean[] {true, false}) {
            CountedActors kept = sentByOwner(true, 2);
            if (!held) {
                call(kept, 1, 0);
            }
            kept.collect(1);
            CHECK.due("waiting(0), " + (held ? "kept" : "not kept"), kept.waiting(0), held ? 0 : 1);
            CHECK.due("count(1, 0), " + (held ? "kept" : "not kept"), kept.count(1, 0), held ? 2 : 0);
        }
        // Its own objects are not lowered, whatever their count.
        CountedActors own = sentByOwner(false, 2);
        own.collect(0);
        CHECK.due("count(0, 0) of its own", own.count(0, 0), 2);
        CHECK.due("waiting(0)", own.waiting(0), 0);
    }

    @Sentence("`int collect(int a)`: Actor a collects: how many objects were freed; -1 if there is no such actor.")
    private static void collecting() {
        for (int n = 1; n <= 4; n++) {
            for (int a : numbers(MIN, -1, 0, n - 1, n, n + 1, MAX)) {
                CountedActors m = new CountedActors(n);
                int one = behaviour(m, TAG, make(1, REF));
                for (int owner = 0; owner < n; owner++) {
                    for (int i = 0; i <= owner; i++) {
                        call(m, owner, one);
                    }
                }
                int all = n * (n + 1) / 2;
                boolean is = a >= 0 && a < n;
                CHECK.due("collect(" + a + ") of " + n, m.collect(a), is ? a + 1 : -1);
                CHECK.due("garbage() behind it", m.garbage(), is ? all - a - 1 : all);
                CHECK.due("collect(" + a + ") of " + n + " again", m.collect(a), is ? 0 : -1);
            }
        }
        CountedActors m = new CountedActors(1);
        int eight = behaviour(m, TAG, make(1, REF), make(1, REF), make(1, REF), make(1, REF), make(1, REF), make(1, REF),
            make(1, REF), make(1, REF));
        CHECK.due("collect(0) of nothing", m.collect(0), 0);
        call(m, 0, eight);
        call(m, 0, eight);
        CHECK.due("collect(0) of all sixteen", m.collect(0), 16);
        CHECK.due("collect(0) again", m.collect(0), 0);
    }

    @Sentence("`int garbage()`: How many objects lie neither in the closure of what a field k of an actor holds by "
        + "capability k, nor in that of what a call in a queue has for its parameter by the parameter's capability.")
    private static void garbage() {
        CHECK.due("garbage() of nothing", new CountedActors(1).garbage(), 0);
        for (int i = ISO; i <= TAG; i++) {
            for (int j = ISO; j <= TAG; j++) {
                CHECK.due("garbage() by fields " + i + " and " + j, nested(i, j, ISO).garbage(), i == TAG ? 2 : j == TAG ? 1 : 0);
            }
        }
        for (int parameter : numbers(ISO, VAL, TAG)) {
            for (int to = 0; to < 3; to++) {
                CountedActors m = new CountedActors(3);
                behaviour(m, parameter);
                call(m, 0, behaviour(m, TAG, make(1, ISO), make(2, ISO), swap(3, 1, REF, 2), send(to, 0, 1)));
                m.post(to, 0);
                CHECK.due("garbage() by a call of " + parameter + " to " + to, m.garbage(), parameter == TAG ? 1 : 0);
                m.step(to);
                CHECK.due("garbage() once it is taken", m.garbage(), 2);
            }
        }
        for (int a = 0; a < 4; a++) {
            CountedActors m = new CountedActors(4);
            call(m, a, behaviour(m, TAG, make(1, REF), make(2, REF), put(THIS, REF, 1)));
            CHECK.due("garbage(): actor " + a + " holds one of two", m.garbage(), 1);
        }
        CountedActors full = new CountedActors(1);
        int eight = behaviour(full, TAG, make(1, REF), make(1, REF), make(1, REF), make(1, REF), make(1, REF), make(1, REF),
            make(1, REF), make(1, REF));
        call(full, 0, eight);
        call(full, 0, eight);
        CHECK.due("garbage() of sixteen", full.garbage(), 16);
        CHECK.due("garbage() of sixteen that hold one another", chainOfSixteen().garbage(), 16);
        // Raises and lowers hold nothing.
        CountedActors m = letGo();
        CHECK.due("garbage() with counts alone", m.garbage(), 3);
        m.collect(2);
        CHECK.due("garbage() with lowers", m.garbage(), 3);
        m = new CountedActors(2);
        int ignore = behaviour(m, VAL);
        int back = behaviour(m, VAL, send(0, ignore, 0));
        call(m, 0, behaviour(m, TAG, make(1, VAL), send(1, back, 1)));
        stepTimes(m, 2, 1);
        CHECK.due("waiting(0): a raise", m.waiting(0), 1);
        CHECK.due("garbage() with a raise", m.garbage(), 1);
    }
}
