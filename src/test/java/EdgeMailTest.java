/** The edges of messages: full queues, counts about 2, closures, what is sent, taken and lost. */
public final class EdgeMailTest extends Script {
    private static final Check CHECK = new Check("EdgeMailTest");
    private static final int MIN = Integer.MIN_VALUE;
    private static final int MAX = Integer.MAX_VALUE;

    public static void main(String[] args) {
        Sentences.runAll(EdgeMailTest.class, CHECK);
    }

    private static void counts(String when, CountedActors m, int o, int... want) {
        for (int a = 0; a < want.length; a++) {
            CHECK.due(when + ": count(" + a + ", " + o + ")", m.count(a, o), want[a]);
        }
    }

    private static void waiting(String when, CountedActors m, int... want) {
        for (int a = 0; a < want.length; a++) {
            CHECK.due(when + ": waiting(" + a + ")", m.waiting(a), want[a]);
        }
    }

    @Sentence("8 SEND x y z here x is 0 .. 3, y the number of a behaviour that has been begun (the open one too).")
    private static void whatSendNames() {
        for (int there = 0; there < 6; there++) {
            for (int y : numbers(MIN, -1, 0, there - 1, there, there + 1, 5, 6, MAX)) {
                CountedActors m = new CountedActors(1);
                for (int b = 0; b < there; b++) {
                    behaviour(m, TAG);
                }
                m.begin(TAG);
                CHECK.due("SEND to " + y + " while " + there + " is open", add(m, send(0, y, 0)), y >= 0 && y <= there ? 0 : 3);
            }
        }
        for (int n = 1; n <= 4; n++) {
            for (int x : numbers(MIN, -1, 0, 1, 2, 3, 4, 5, MAX)) {
                CountedActors m = new CountedActors(n);
                m.begin(TAG);
                CHECK.due("SEND by " + x + " of " + n, add(m, send(x, 0, 0)), x >= 0 && x <= 3 ? 0 : 3);
            }
        }
    }

    @Sentence({"z is emptied; what it held is sent to behaviour y of the actor with the number (own number + x) modulo n.",
        "The source is the capability that z had."})
    private static void aroundTheActors() {
        for (int n = 1; n <= 4; n++) {
            for (int a = 0; a < n; a++) {
                for (int x = 0; x <= 3; x++) {
                    CountedActors m = new CountedActors(n);
                    int keep = behaviour(m, ISO, swap(1, THIS, ISO, 0));
                    m.begin(TAG);
                    addAll(m, make(1, ISO), send(x, keep, 1));
                    CHECK.due("holds(1): z is emptied", m.holds(1), -1);
                    m.end();
                    call(m, a, 1);
                    int to = a + x;
                    while (to >= n) {
                        to -= n;
                    }
                    for (int other = 0; other < n; other++) {
                        CHECK.due("waiting(" + other + ") from " + a + " by " + x + " of " + n, m.waiting(other),
                            other == to ? 1 : 0);
                    }
                    CHECK.due("step(" + to + ")", m.step(to), CALL);
                    CHECK.due("field(" + to + ", 0): what was sent", m.field(to, ISO), 0);
                }
            }
        }
    }

    /** Each actor holds objects with the cells 10, 11 and 12; each of three behaviours shows one of them. */
    @Sentence("MESSAGES. Each actor has a queue; messages go in at its end and are taken at its front.")
    private static void queues() {
        CountedActors m = new CountedActors(2);
        int[] shows = new int[3];
        for (int i = 0; i < 3; i++) {
            shows[i] = behaviour(m, TAG, get(1, THIS, REF + i), show(1));
        }
        int cells = behaviour(m, TAG, make(1, REF), grow(1, 10), put(THIS, REF, 1), make(1, ISO), grow(1, 11),
            swap(2, THIS, VAL, 1), make(1, REF), grow(1, 12), put(THIS, BOX, 1));
        call(m, 0, cells);
        call(m, 1, cells);
        int posted = 0;
        // More go in than are taken, so that the queue grows while its front moves on.
        for (int taken = 0; taken < 40; taken++) {
            for (int i = 0; i < 2 && posted < 40 && posted - taken < 19; i++) {
                m.post(0, shows[posted % 3]);
                posted++;
            }
            m.post(1, shows[taken % 2]);
            waiting("before step " + taken, m, posted - taken, 1);
            CHECK.due("step(0)", m.step(0), CALL);
            CHECK.due("shown(0) by actor 0", m.shown(0), 10 + taken % 3);
            CHECK.due("step(1)", m.step(1), CALL);
            CHECK.due("shown(0) by actor 1", m.shown(0), 10 + taken % 2);
        }
        CHECK.due("step(0) with all taken", m.step(0), -1);
    }

    @Sentence("They are CALLS (a behaviour and what its parameter holds), RAISES and LOWERS (an object and an amount).")
    private static void kinds() {
        CountedActors m = heldWithCount(1);
        m.post(1, 2);
        CHECK.due("step(1): a call", m.step(1), CALL);
        CHECK.due("step(0): a raise", m.step(0), RAISE);
        counts("the raise had object 0 and 8", m, 0, 9, 8, 0);
        counts("and no other object", m, 1, 0, 0, 0);
        CHECK.due("step(2): the call", m.step(2), CALL);
        CHECK.due("field(2, 3): it had behaviour 0 and object 0", m.field(2, VAL), 0);
        call(m, 1, 0);
        m.collect(1);
        CHECK.due("step(0): a lower", m.step(0), LOWER);
        counts("the lower had object 0 and 8", m, 0, 1, 0, 1);
    }

    /**
     * Of 3 actors, actor 1 holds object 0 of actor 0 in field 3 with that count; actor 0 owns object 1
     * too. Behaviour 0 keeps a VAL, behaviour 2 sends what is in field 3 to behaviour 0 of the next.
     */
    private static CountedActors heldWithCount(int count) {
        CountedActors m = new CountedActors(3);
        int keep = behaviour(m, VAL, put(THIS, VAL, 0));
        int first = behaviour(m, TAG, make(1, VAL), make(2, REF), put(THIS, VAL, 1), put(THIS, REF, 2), send(1, keep, 1));
        behaviour(m, TAG, get(1, THIS, VAL), send(1, keep, 1));
        int again = behaviour(m, TAG, get(1, THIS, VAL), send(1, keep, 1));
        call(m, 0, first);
        m.step(1);
        for (int i = 1; i < count; i++) {
            call(m, 0, again);
            m.step(1);
        }
        return m;
    }

    @Sentence("At most 20 messages wait in all queues together.")
    private static void twentyMessages() {
        // By post, in one queue or in several.
        for (int n = 1; n <= 4; n++) {
            CountedActors m = new CountedActors(n);
            int idle = behaviour(m, TAG);
            for (int i = 0; i < 23; i++) {
                CHECK.due("post number " + (i + 1) + " of " + n, m.post(i % n, idle), i < 20);
            }
            CHECK.due("step(0)", m.step(0), CALL);
            CHECK.due("post into the room", m.post(n - 1, idle), true);
            CHECK.due("post without room", m.post(0, idle), false);
        }
        // By SEND: the call that is taken makes room for one.
        for (int others : numbers(18, 19)) {
            CountedActors m = new CountedActors(2);
            int idle = behaviour(m, TAG);
            int two = behaviour(m, TAG, copy(1, 0), send(1, idle, 0), send(0, idle, 1));
            m.post(0, two);
            postTimes(m, others, 1, idle);
            CHECK.due("step(0)", m.step(0), CALL);
            waiting("two sent with " + others, m, others == 18 ? 1 : 0, others + 1);
            CHECK.due("lost()", m.lost(), others - 18);
        }
        // By raises: a call and a raise need room for two; by lowers: one.
        for (int others : numbers(17, 18, 19, 20)) {
            CountedActors m = heldWithCount(1);
            if (others < 20) {
                m.post(1, 2);
                postTimes(m, others, 2, 0);
                CHECK.due("step(1)", m.step(1), CALL);
                waiting("a raise and a call with " + others, m, others < 19 ? 1 : 0, 0, others < 19 ? others + 1 : others);
            }
            m = heldWithCount(1);
            call(m, 1, 0);
            postTimes(m, others, 2, 0);
            m.collect(1);
            waiting("a lower with " + others, m, others < 20 ? 1 : 0, 0, others);
            counts("a lower with " + others, m, 0, 1, others < 20 ? 0 : 1, 0);
        }
    }

    @Sentence("COUNTS: each actor has a count for each object, 0 when the object is made.")
    private static void countsAtFirst() {
        CountedActors m = new CountedActors(4);
        int one = behaviour(m, TAG, make(1, REF));
        for (int a = 0; a < 4; a++) {
            call(m, a, one);
            counts("made by " + a, m, a, 0, 0, 0, 0);
        }
        int keep = behaviour(m, TAG, put(THIS, TAG, 0));
        call(m, 0, behaviour(m, TAG, make(1, REF), send(1, keep, 1)));
        m.step(1);
        counts("sent", m, 4, 1, 1, 0, 0);
        call(m, 1, keep);
        m.collect(1);
        m.step(0);
        CHECK.due("collect(0)", m.collect(0), 2);
        for (int o : numbers(0, 1, 4)) {
            CHECK.due("count(0, " + o + ") of a freed one", m.count(0, o), -1);
            call(m, 2, one);
            counts("the number used again", m, o, 0, 0, 0, 0);
        }
        // NEW leaves the counts for the one with the next number alone.
        m = new CountedActors(4);
        keep = behaviour(m, TAG, put(THIS, TAG, 0));
        one = behaviour(m, TAG, make(1, REF));
        int tell = behaviour(m, TAG, make(1, REF), put(THIS, REF, 1), copy(2, 1), copy(3, 1), send(1, keep, 1),
            send(2, keep, 2), send(3, keep, 3));
        call(m, 0, one);
        call(m, 0, tell);
        CHECK.due("collect(0)", m.collect(0), 1);
        for (int a = 1; a < 4; a++) {
            m.step(a);
        }
        call(m, 3, one);
        CHECK.due("owner(0), the number used again", m.owner(0), 3);
        counts("of the new one", m, 0, 0, 0, 0, 0);
        counts("of the next", m, 1, 3, 1, 1, 1);
    }

    /** Object 0 holds object 1 in field k, and that object 2 in field j; object 0 was sent. */
    @Sentence("The CLOSURE of an object by a capability: the object, and, unless the capability is TAG, "
        + "the closures of the objects that its fields hold, of what field k holds by capability k.")
    private static void closures() {
        for (int parameter : numbers(ISO, VAL, TAG)) {
            for (int k = ISO; k <= TAG; k++) {
                for (int j = ISO; j <= TAG; j++) {
                    CountedActors m = new CountedActors(2);
                    behaviour(m, parameter);
                    call(m, 0, behaviour(m, TAG, make(1, ISO), make(2, ISO), make(3, ISO), swap(4, 2, j, 3), swap(4, 1, k, 2),
                        send(1, 0, 1)));
                    String way = "by " + parameter + ", " + k + ", " + j;
                    counts(way, m, 0, 1, 0);
                    counts(way, m, 1, parameter == TAG ? 0 : 1, 0);
                    counts(way, m, 2, parameter == TAG || k == TAG ? 0 : 1, 0);
                }
            }
        }
    }

    /** Object 1 stands in three fields of object 0, and holds object 0 in turn. */
    @Sentence("(An object is in it or not, however often it is met.)")
    private static void metOften() {
        CountedActors m = new CountedActors(3);
        int ignore = behaviour(m, ISO);
        int pass = behaviour(m, ISO, send(1, ignore, 0));
        m.begin(TAG);
        addAll(m, open(), make(1, REF), make(2, REF), put(1, REF, 2), put(1, BOX, 2), put(1, TAG, 2), put(2, REF, 1),
            shut(1, 1), send(1, pass, 1));
        m.end();
        call(m, 0, 2);
        counts("sent", m, 0, 1, 0, 0);
        counts("sent", m, 1, 1, 0, 0);
        postTimes(m, 17, 0, ignore);
        CHECK.due("step(1): room for two raises and a call", m.step(1), CALL);
        CHECK.due("lost(): no third raise is asked for", m.lost(), 0);
        counts("sent on", m, 0, 1, 8, 0);
        counts("sent on", m, 1, 1, 8, 0);
        waiting("sent on", m, 19, 0, 1);
        CHECK.due("step(2)", m.step(2), CALL);
        counts("taken", m, 0, 1, 8, 1);
        counts("taken", m, 1, 1, 8, 1);
        // Sixteen objects, each but the first met in three ways.
        m = new CountedActors(1);
        int next = behaviour(m, TAG, get(1, THIS, REF), make(2, REF), put(2, REF, 1), put(2, BOX, 1), put(2, TAG, 1),
            put(THIS, REF, 2));
        for (int o = 0; o < 16; o++) {
            call(m, 0, next);
        }
        CHECK.due("garbage() of sixteen, each met often", m.garbage(), 0);
        CHECK.due("collect(0) of sixteen, each met often", m.collect(0), 0);
        for (int o = 0; o < 16; o++) {
            CHECK.due("rights(0, " + o + "), met often", m.rights(0, o), 7);
        }
    }

    @Sentence("That of NONE is nothing.")
    private static void closureOfNone() {
        for (int parameter : numbers(ISO, VAL, TAG)) {
            CountedActors m = new CountedActors(2);
            int ignore = behaviour(m, parameter);
            int pass = behaviour(m, parameter, send(1, ignore, 0));
            call(m, 0, behaviour(m, TAG, make(1, REF), make(2, REF), put(THIS, REF, 1), put(1, REF, 2)));
            m.post(0, pass);
            postTimes(m, 19, 1, ignore);
            CHECK.due("step(0): room for the call alone", m.step(0), CALL);
            waiting("sent", m, 0, 20);
            CHECK.due("lost()", m.lost(), 0);
            stepTimes(m, 20, 1);
            for (int o = 0; o < 2; o++) {
                counts("NONE was sent and taken", m, o, 0, 0);
            }
            for (int a = 0; a < 2; a++) {
                CHECK.due("collect(" + a + "): NONE keeps nothing and frees nothing", m.collect(a), 0);
            }
        }
    }

    /** Object 0 was sent with what is in it by a behaviour whose parameter is a TAG: without what is in it. */
    @Sentence("SENDING by actor a: C is the closure of what is sent by the capability of the parameter.")
    private static void byTheCapabilityOfTheParameter() {
        for (int parameter : numbers(ISO, VAL, TAG)) {
            for (int had : numbers(ISO, TRN)) {
                CountedActors m = new CountedActors(2);
                behaviour(m, parameter);
                m.begin(TAG);
                addAll(m, make(1, had), make(2, ISO), swap(3, 1, REF, 2));
                boolean fits = had == ISO || parameter != ISO;
                CHECK.due("SEND of " + had + " as " + parameter, add(m, send(1, 0, 1)), fits ? 0 : 9);
                m.end();
                call(m, 0, 1);
                counts("sent as " + parameter, m, 0, fits ? 1 : 0, 0);
                counts("sent as " + parameter, m, 1, fits && parameter != TAG ? 1 : 0, 0);
            }
        }
    }

    /**
     * Actor 1 has in field 0 an object of its own, which holds a chain of so many objects of actor 0,
     * each with count 1; it takes a call that sends all of it to actor 2, while so many others wait.
     */
    private static CountedActors sendsForeign(int foreign, int others) {
        CountedActors m = new CountedActors(3);
        int ignore = behaviour(m, ISO);
        int take = behaviour(m, ISO, make(1, ISO), swap(2, 1, ISO, 0), swap(3, THIS, ISO, 1));
        int send = behaviour(m, ISO, swap(1, THIS, ISO, 0), send(1, ignore, 1));
        m.begin(ISO);
        for (int i = 0; i < foreign; i++) {
            addAll(m, make(1, ISO), swap(2, 1, ISO, 0), move(0, 1));
        }
        addAll(m, send(1, take, 0));
        m.end();
        call(m, 0, 3);
        m.step(1);
        m.post(1, send);
        postTimes(m, others, 2, ignore);
        m.step(1);
        return m;
    }

    @Sentence("If the queues have no room for the call and for one raise for each object of C that a does not own and "
        + "for which its count is below 2, then nothing is sent and no count changes: it is LOST.")
    private static void roomForAll() {
        for (int foreign = 0; foreign <= 3; foreign++) {
            int needed = 1 + foreign;
            for (int room = Math.max(1, needed - 2); room <= needed + 1; room++) {
                CountedActors m = sendsForeign(foreign, 20 - room);
                boolean sent = room >= needed;
                String when = foreign + " raises with room for " + room;
                waiting(when, m, sent ? foreign : 0, 0, 20 - room + (sent ? 1 : 0));
                CHECK.due(when + ": lost()", m.lost(), sent ? 0 : 1);
                for (int o = 0; o < foreign; o++) {
                    counts(when, m, o, 1, sent ? 8 : 1, 0);
                }
                counts(when + ", its own", m, foreign, 0, sent ? 1 : 0, 0);
                CHECK.due(when + ": field(1, 0): z was emptied", m.field(1, ISO), -1);
                CHECK.due(when + ": garbage()", m.garbage(), sent ? 0 : foreign + 1);
            }
        }
        // A count of 2 or more asks for no raise, and so for no room.
        for (int count : numbers(1, 2, 3)) {
            CountedActors m = heldWithCount(count);
            m.post(1, 2);
            postTimes(m, 19, 2, 0);
            CHECK.due("step(1)", m.step(1), CALL);
            CHECK.due("lost() at count " + count, m.lost(), count == 1 ? 1 : 0);
            waiting("at count " + count, m, 0, 0, count == 1 ? 19 : 20);
            counts("at count " + count, m, 0, count, count == 1 ? 1 : count - 1, 0);
        }
    }

    @Sentence("Otherwise, for each object of C by its number, the least first: if a owns it, a's count for it grows by 1; "
        + "else if that count is 2 or more, it falls by 1; else a raise of 8 for it goes into the queue of its owner, "
        + "and a's count grows by 7.")
    private static void countsWhenSent() {
        // The owner's count, sent once, twice, thrice.
        CountedActors owner = heldWithCount(1);
        for (int sent = 2; sent < 5; sent++) {
            call(owner, 0, 3);
            owner.step(1);
            counts("sent by its owner", owner, 0, sent, sent, 0);
        }
        for (int count : numbers(1, 2, 3, 4)) {
            CountedActors m = heldWithCount(count);
            call(m, 1, 2);
            counts("sent at count " + count, m, 0, count, count == 1 ? 8 : count - 1, 0);
            waiting("sent at count " + count, m, count == 1 ? 1 : 0, 0, 1);
            if (count == 1) {
                CHECK.due("step(0)", m.step(0), RAISE);
                counts("raised by 8", m, 0, 9, 8, 0);
            }
        }
        // The raises go by number, whichever object holds the other: the chain's first is the highest.
        CountedActors m = sendsForeign(3, 0);
        for (int o = 0; o < 3; o++) {
            for (int later = o; later < 3; later++) {
                CHECK.due("count(0, " + later + ") before", m.count(0, later), 1);
            }
            CHECK.due("step(0)", m.step(0), RAISE);
            CHECK.due("count(0, " + o + ") behind", m.count(0, o), 9);
        }
        CHECK.due("step(0) with all taken", m.step(0), -1);
    }

    @Sentence("Then the call goes into the queue of the actor sent to.")
    private static void theCallComesLast() {
        CountedActors m = new CountedActors(2);
        int ignore = behaviour(m, VAL);
        int back = behaviour(m, VAL, send(1, ignore, 0));
        call(m, 0, behaviour(m, TAG, make(1, VAL), send(1, back, 1)));
        waiting("sent", m, 0, 1);
        CHECK.due("step(1)", m.step(1), CALL);
        waiting("sent back to the owner", m, 2, 0);
        CHECK.due("step(0): the raise", m.step(0), RAISE);
        counts("raised", m, 0, 9, 8);
        CHECK.due("step(0): the call", m.step(0), CALL);
        counts("taken", m, 0, 8, 8);
    }

    @Sentence("TAKING a message by actor a. It leaves the queue.")
    private static void itLeavesTheQueue() {
        CountedActors m = new CountedActors(2);
        int idle = behaviour(m, TAG);
        for (int there = 1; there <= 20; there++) {
            m.post(1, idle);
        }
        for (int left = 19; left >= 0; left--) {
            CHECK.due("step(1)", m.step(1), CALL);
            waiting("taken", m, 0, left);
        }
        CHECK.due("step(1) of an empty queue", m.step(1), -1);
        waiting("nothing to take", m, 0, 0);
        // It has left before its statements are done, so that there is room for what they send.
        int again = behaviour(m, TAG, send(0, idle, 0));
        m.post(0, again);
        postTimes(m, 19, 1, idle);
        CHECK.due("step(0)", m.step(0), CALL);
        waiting("sent from a full machine", m, 1, 19);
        CHECK.due("lost()", m.lost(), 0);
    }

    @Sentence("A raise: a's count for the object grows by the amount; a lower: it falls by the amount.")
    private static void raisesAndLowers() {
        for (int count : numbers(1, 2, 3)) {
            CountedActors m = heldWithCount(count);
            call(m, 1, 0);
            m.collect(1);
            counts("before the lower", m, 0, count, 0, 0);
            CHECK.due("step(0)", m.step(0), LOWER);
            counts("behind the lower by " + count, m, 0, 0, 0, 0);
            counts("of another object", m, 1, 0, 0, 0);
        }
        CountedActors m = heldWithCount(1);
        for (int sent = 0; sent < 9; sent++) {
            call(m, 1, 2);
        }
        counts("a raise at the first and at the ninth", m, 0, 1, 8, 0);
        waiting("two raises", m, 2, 0, 9);
        CHECK.due("step(0)", m.step(0), RAISE);
        counts("the one raise", m, 0, 9, 8, 0);
        CHECK.due("step(0)", m.step(0), RAISE);
        counts("the other raise", m, 0, 17, 8, 0);
        stepTimes(m, 9, 2);
        counts("all are taken", m, 0, 17, 8, 9);
        counts("of another object", m, 1, 0, 0, 0);
    }

    @Sentence("A call: for each object of the closure of what the parameter holds by the parameter's capability "
        + "a's count falls by 1 if a owns the object, else it grows by 1; ")
    private static void countsWhenTaken() {
        for (int parameter : numbers(ISO, VAL, TAG)) {
            for (int to : numbers(0, 1)) {
                CountedActors m = new CountedActors(2);
                behaviour(m, parameter);
                call(m, 0, behaviour(m, TAG, make(1, ISO), make(2, ISO), swap(3, 1, REF, 2), send(to, 0, 1)));
                int inner = parameter == TAG ? 0 : 1;
                counts("on its way by " + parameter, m, 0, 1, 0);
                counts("on its way by " + parameter, m, 1, inner, 0);
                CHECK.due("step(" + to + ")", m.step(to), CALL);
                counts("taken by " + parameter, m, 0, to, to);
                counts("taken by " + parameter, m, 1, to == 0 ? 0 : inner, to == 0 ? 0 : inner);
            }
        }
        // Actor 1 takes its own object with one of actor 0 in it.
        CountedActors m = sendsForeign(1, 0);
        counts("on its way", m, 0, 1, 8, 0);
        counts("on its way", m, 1, 0, 1, 0);
        CHECK.due("step(2)", m.step(2), CALL);
        counts("taken", m, 0, 1, 8, 1);
        counts("taken", m, 1, 0, 1, 1);
    }

    @Sentence("`boolean post(int a, int b)`: A call of behaviour b with NONE goes into the queue of actor a; "
        + "false if there is no such actor, no such finished behaviour, or the queues have no room.")
    private static void posting() {
        for (int n = 1; n <= 4; n++) {
            for (int a : numbers(MIN, -1, 0, n - 1, n, n + 1, MAX)) {
                for (int there : numbers(19, 20)) {
                    CountedActors m = new CountedActors(n);
                    int idle = behaviour(m, TAG);
                    postTimes(m, there, 0, idle);
                    CHECK.due("post(" + a + ", 0) of " + n + " with " + there, m.post(a, idle),
                        a >= 0 && a < n && there < 20);
                }
            }
        }
        for (int there = 0; there <= 6; there++) {
            CountedActors m = new CountedActors(1);
            for (int b = 0; b < there; b++) {
                behaviour(m, TAG);
            }
            int open = m.begin(TAG);
            for (int b : numbers(MIN, -1, 0, there - 1, there, there + 1, 5, 6, MAX)) {
                CHECK.due("post(0, " + b + ") with " + there, m.post(0, b), b >= 0 && b < there);
            }
            CHECK.due("end()", m.end(), there < 6);
            CHECK.due("post(0, " + there + ") of the one that was open", m.post(0, there), open >= 0);
        }
        CountedActors m = new CountedActors(1);
        int keep = behaviour(m, TAG, make(1, REF), put(THIS, TAG, 1));
        int none = behaviour(m, TAG, put(THIS, TAG, 0));
        call(m, 0, keep);
        CHECK.due("field(0, 5) before", m.field(0, TAG), 0);
        call(m, 0, none);
        CHECK.due("field(0, 5): the parameter held NONE", m.field(0, TAG), -1);
    }

    @Sentence("`int step(int a)`: Actor a takes a message: 0 if it was a call, 1 a raise, 2 a lower; "
        + "-1 if there is no such actor or its queue is empty.")
    private static void stepping() {
        for (int n = 1; n <= 4; n++) {
            for (int a : numbers(MIN, -1, 0, n - 1, n, n + 1, MAX)) {
                CountedActors m = new CountedActors(n);
                int idle = behaviour(m, TAG);
                CHECK.due("step(" + a + ") of " + n + " with an empty queue", m.step(a), -1);
                for (int to = 0; to < n; to++) {
                    m.post(to, idle);
                }
                boolean is = a >= 0 && a < n;
                CHECK.due("step(" + a + ") of " + n, m.step(a), is ? 0 : -1);
                for (int other = 0; other < n; other++) {
                    CHECK.due("waiting(" + other + ") behind it", m.waiting(other), other == a ? 0 : 1);
                }
                CHECK.due("step(" + a + ") of " + n + " again", m.step(a), -1);
            }
        }
        CountedActors m = new CountedActors(2);
        int ignore = behaviour(m, VAL);
        int back = behaviour(m, VAL, send(1, ignore, 0));
        call(m, 0, behaviour(m, TAG, make(1, VAL), send(1, back, 1)));
        m.step(1);
        m.collect(1);
        for (int kind : numbers(1, 0, 2, -1)) {
            CHECK.due("step(0)", m.step(0), kind);
        }
    }

    @Sentence("`int waiting(int a)`: How many messages wait in the queue of actor a; -1 if there is no such actor.")
    private static void waitingOnes() {
        for (int n = 1; n <= 4; n++) {
            CountedActors m = new CountedActors(n);
            int idle = behaviour(m, TAG);
            for (int a = 0; a < n; a++) {
                postTimes(m, a + 1, a, idle);
            }
            for (int a : numbers(MIN, -2, -1, 0, n - 1, n, n + 1, MAX)) {
                CHECK.due("waiting(" + a + ") of " + n, m.waiting(a), a >= 0 && a < n ? a + 1 : -1);
            }
        }
        // Raises and lowers wait like calls.
        CountedActors m = heldWithCount(1);
        call(m, 1, 2);
        waiting("a raise", m, 1, 0, 1);
        call(m, 1, 0);
        m.collect(1);
        waiting("a raise and a lower", m, 2, 0, 1);
        postTimes(m, 17, 0, 0);
        waiting("full", m, 19, 0, 1);
        CHECK.due("post(0, 0)", m.post(0, 0), false);
        waiting("full still", m, 19, 0, 1);
    }

    @Sentence("`int lost()`: How often NEW or SEND was lost.")
    private static void lostOnes() {
        CountedActors m = new CountedActors(1);
        int idle = behaviour(m, TAG);
        int eight = behaviour(m, TAG, make(1, REF), make(1, REF), make(1, REF), make(1, REF), make(1, REF), make(1, REF),
            make(1, REF), make(1, REF));
        int both = behaviour(m, TAG, make(1, REF), make(2, REF), send(0, idle, 1), send(0, idle, 2), send(0, idle, 0));
        CHECK.due("lost() at first", m.lost(), 0);
        call(m, 0, eight);
        CHECK.due("lost() with 8 objects", m.lost(), 0);
        call(m, 0, eight);
        CHECK.due("lost() with 16 objects", m.lost(), 0);
        m.post(0, both);
        postTimes(m, 19, 0, idle);
        m.step(0);
        CHECK.due("lost(): two NEW, and two of three SEND", m.lost(), 4);
        CHECK.due("waiting(0)", m.waiting(0), 20);
        for (int times = 0; times < 3; times++) {
            m.garbage();
            m.collect(0);
        }
        CHECK.due("lost() stays", m.lost(), 4);
    }

    @Sentence("(What post() refuses is none of them.)")
    private static void refusedPostsAreNotLost() {
        CountedActors m = new CountedActors(1);
        int idle = behaviour(m, TAG);
        postTimes(m, 20, 0, idle);
        CHECK.due("post(0, 0) without room", m.post(0, idle), false);
        CHECK.due("lost() behind it", m.lost(), 0);
        CHECK.due("post(1, 0), no such actor", m.post(1, idle), false);
        CHECK.due("post(0, 1), no such behaviour", m.post(0, 1), false);
        CHECK.due("lost() behind them", m.lost(), 0);
    }
}
