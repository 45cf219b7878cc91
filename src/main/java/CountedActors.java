import java.util.Arrays;

/** A small machine of actors that hold objects by references of six capabilities. */
public final class CountedActors {
    private static final int NONE = -1;

    private static final int MOST_ACTORS = 4;
    private static final int OBJECTS = 16;
    private static final int FIELDS = 6;
    private static final int LOCALS = 6;
    private static final int BEHAVIOURS = 6;
    private static final int STATEMENTS = 10;
    private static final int DISTANCES = 4;
    private static final int MESSAGES = 20;
    private static final int SHOWN = 16;

    /** The number that stands for the acting actor where a statement names a local. */
    private static final int THIS = 6;

    private static final int CAPABILITIES = 6;
    private static final int ISO = 0;
    private static final int TRN = 1;
    private static final int REF = 2;
    private static final int VAL = 3;
    private static final int BOX = 4;
    private static final int TAG = 5;

    private static final int NEW = 0;
    private static final int COPY = 1;
    private static final int MOVE = 2;
    private static final int GET = 3;
    private static final int PUT = 4;
    private static final int SWAP = 5;
    private static final int ADD = 6;
    private static final int SHOW = 7;
    private static final int SEND = 8;
    private static final int OPEN = 9;
    private static final int SHUT = 10;

    /** The kinds of messages; each number is also what step answers for it. */
    private static final int CALL = 0;
    private static final int RAISE = 1;
    private static final int LOWER = 2;

    private static final int RAISED_BY = 8;

    /** The count from which an actor that is not the owner can send without a raise. */
    private static final int ENOUGH_TO_SEND = 2;

    private static final int ACCEPTED = 0;
    private static final int NOT_OPEN = 1;
    private static final int FULL = 2;
    private static final int NAMES_NOTHING = 3;
    private static final int WRONG_BLOCK = 4;
    private static final int IS_HIDDEN = 5;
    private static final int IS_EMPTY = 6;
    private static final int NOT_ABLE = 7;
    private static final int NOT_SAFE = 8;
    private static final int NOT_FITTING = 9;

    private static final int SEEN = 1;
    private static final int SEEN_READABLE = 2;
    private static final int SEEN_WRITABLE = 4;

    private final int actors;
    private final Program program;
    private final Heap heap;
    private final Mail mail;
    private final Walk walk;
    private final Display display;
    private final Machine machine;

    public CountedActors(int n) {
        actors = Math.max(1, Math.min(MOST_ACTORS, n));
        program = new Program();
        heap = new Heap();
        mail = new Mail();
        walk = new Walk(heap);
        display = new Display();
        machine = new Machine(actors, program, heap, mail, walk, display);
    }

    public int begin(int k) {
        return program.open(k);
    }

    public int add(int op, int x, int y, int f, int z) {
        return program.write(op, x, y, f, z);
    }

    public boolean end() {
        return program.finish();
    }

    public boolean drop() {
        return program.giveUp();
    }

    public int holds(int x) {
        return program.capabilityShown(x);
    }

    public boolean post(int a, int b) {
        if (!isActor(a) || !program.isFinished(b) || mail.room() < 1) {
            return false;
        }
        mail.put(CALL, a, NONE, b);
        return true;
    }

    public int step(int a) {
        return isActor(a) ? machine.takeMessage(a) : -1;
    }

    public int collect(int a) {
        return isActor(a) ? machine.collectFor(a) : -1;
    }

    public int waiting(int a) {
        return isActor(a) ? mail.sizeFor(a) : -1;
    }

    public int owner(int o) {
        return heap.exists(o) ? heap.ownerOf(o) : -1;
    }

    public int cell(int o) {
        return heap.exists(o) ? heap.cellOf(o) : 0;
    }

    public int count(int a, int o) {
        return isActor(a) && heap.exists(o) ? heap.countOf(a, o) : -1;
    }

    public int field(int a, int k) {
        return isActor(a) && isField(k) ? heap.heldBy(Heap.holderOfActor(a), k) : -1;
    }

    public int inner(int o, int k) {
        return heap.exists(o) && isField(k) ? heap.heldBy(o, k) : -1;
    }

    public int rights(int a, int o) {
        if (!isActor(a) || !heap.exists(o)) {
            return 0;
        }
        walk.start();
        machine.meetFields(a);
        machine.meetCalls(a);
        walk.followByView();
        return walk.rightsOver(o);
    }

    public int shown(int k) {
        return k == -1 ? display.times() : display.latest(k);
    }

    public int garbage() {
        walk.start();
        for (int a = 0; a < actors; a++) {
            machine.meetFields(a);
            machine.meetCalls(a);
        }
        walk.followClosure();
        int unmet = 0;
        for (int o = 0; o < OBJECTS; o++) {
            if (heap.exists(o) && !walk.hasMet(o)) {
                unmet++;
            }
        }
        return unmet;
    }

    public int lost() {
        return machine.timesLost();
    }

    private boolean isActor(int a) {
        return a >= 0 && a < actors;
    }

    private static boolean isField(int k) {
        return k >= 0 && k < FIELDS;
    }

    /** What the six capabilities allow. */
    private static final class Capability {
        private static final int[] ALIAS = {TAG, BOX, REF, VAL, BOX, TAG};

        /** A row for each capability that one can look from; TAG has none. */
        private static final int[] VIEW = {
            ISO, TAG, TAG, VAL, TAG, TAG,
            ISO, BOX, BOX, VAL, BOX, TAG,
            ISO, TRN, REF, VAL, BOX, TAG,
            VAL, VAL, VAL, VAL, VAL, TAG,
            TAG, BOX, BOX, VAL, BOX, TAG
        };

        /** A row for each writable capability. */
        private static final int[] DRAWN = {
            ISO, VAL, TAG, VAL, TAG, TAG,
            ISO, VAL, BOX, VAL, BOX, TAG,
            ISO, TRN, REF, VAL, BOX, TAG
        };

        private static final int[] OUT_OF_BLOCK = {ISO, ISO, ISO, VAL, VAL, TAG};

        private static final int SENDABLE = 1 << ISO | 1 << VAL | 1 << TAG;
        private static final int READABLE = 1 << ISO | 1 << TRN | 1 << REF | 1 << VAL | 1 << BOX;
        private static final int WRITABLE = 1 << ISO | 1 << TRN | 1 << REF;
        private static final int ALL = READABLE | 1 << TAG;

        private static final int[] FITS = {
            ALL,
            1 << TRN | 1 << REF | 1 << VAL | 1 << BOX | 1 << TAG,
            1 << REF | 1 << BOX | 1 << TAG,
            1 << VAL | 1 << BOX | 1 << TAG,
            1 << BOX | 1 << TAG,
            1 << TAG
        };

        /** A set for each writable capability. */
        private static final int[] SAFE = {SENDABLE, SENDABLE | 1 << TRN, ALL};

        static boolean isOne(int c) {
            return c >= 0 && c < CAPABILITIES;
        }

        static boolean isIn(int c, int set) {
            return (set >> c & 1) != 0;
        }

        static boolean isSendable(int c) {
            return isIn(c, SENDABLE);
        }

        static boolean isReadable(int c) {
            return isIn(c, READABLE);
        }

        static boolean isWritable(int c) {
            return isIn(c, WRITABLE);
        }

        static int alias(int c) {
            return ALIAS[c];
        }

        static int view(int from, int k) {
            return VIEW[from * FIELDS + k];
        }

        static int drawn(int from, int k) {
            return DRAWN[from * FIELDS + k];
        }

        static int outOfBlock(int c) {
            return OUT_OF_BLOCK[c];
        }

        static boolean fits(int source, int c) {
            return isIn(c, FITS[source]);
        }

        static boolean isSafe(int source, int into) {
            return isIn(source, SAFE[into]);
        }
    }

    /** One statement, in a place that is used again when another is written there. */
    private static final class Statement {
        int op;
        int x;
        int y;
        int f;
        int z;

        void set(int newOp, int newX, int newY, int newF, int newZ) {
            op = newOp;
            x = newX;
            y = newY;
            f = newF;
            z = newZ;
        }

        /** Whether y is a local, or THIS, that the statement looks into. */
        boolean looksIntoY() {
            return op >= COPY && op <= SHOW || op == SHUT;
        }

        boolean looksIntoZ() {
            return op == PUT || op == SWAP || op == SEND;
        }

        boolean namesOnlyWhatIs(int begun) {
            switch (op) {
                case NEW:
                    return isLocal(x) && Capability.isOne(f);
                case COPY:
                case MOVE:
                case SHUT:
                    return isLocal(x) && isLocal(y);
                case GET:
                    return isLocal(x) && isLocalOrThis(y) && isField(f);
                case PUT:
                    return isLocalOrThis(y) && isField(f) && isLocal(z);
                case SWAP:
                    return isLocal(x) && isLocalOrThis(y) && isField(f) && isLocal(z);
                case ADD:
                case SHOW:
                    return isLocal(y);
                case SEND:
                    return x >= 0 && x < DISTANCES && y >= 0 && y < begun && isLocal(z);
                case OPEN:
                    return true;
                default:
                    return false;
            }
        }

        static boolean isLocal(int local) {
            return local >= 0 && local < LOCALS;
        }

        static boolean isLocalOrThis(int local) {
            return isLocal(local) || local == THIS;
        }
    }

    /** A behaviour: the capability of its parameter, and its statements. */
    private static final class Behaviour {
        private final Statement[] statements = new Statement[STATEMENTS];
        private int parameter;
        private int size;

        Behaviour() {
            for (int i = 0; i < STATEMENTS; i++) {
                statements[i] = new Statement();
            }
        }

        void restart(int capability) {
            parameter = capability;
            size = 0;
        }

        int parameter() {
            return parameter;
        }

        int size() {
            return size;
        }

        boolean isFull() {
            return size >= STATEMENTS;
        }

        /** Not to be asked for a place that the behaviour has not, as when it is full. */
        Statement at(int i) {
            return statements[i];
        }

        void keepNext() {
            size++;
        }
    }

    /** The behaviours, of which the last may be open. */
    private static final class Program {
        private final Behaviour[] behaviours = new Behaviour[BEHAVIOURS];
        private final Draft draft = new Draft();
        private int begun;
        private boolean isOpen;

        Program() {
            for (int i = 0; i < BEHAVIOURS; i++) {
                behaviours[i] = new Behaviour();
            }
        }

        int open(int parameter) {
            if (isOpen || begun >= BEHAVIOURS || !isParameter(parameter)) {
                return -1;
            }
            behaviours[begun].restart(parameter);
            draft.restart(parameter);
            isOpen = true;
            begun++;
            return begun - 1;
        }

        int write(int op, int x, int y, int f, int z) {
            if (!isOpen) {
                return NOT_OPEN;
            }
            Behaviour behaviour = behaviours[begun - 1];
            if (behaviour.isFull()) {
                return FULL;
            }
            // The place behind the last statement is nobody's until it is kept.
            Statement s = behaviour.at(behaviour.size());
            s.set(op, x, y, f, z);
            int refusal = refusal(s);
            if (refusal == ACCEPTED) {
                draft.follow(s);
                behaviour.keepNext();
            }
            return refusal;
        }

        private int refusal(Statement s) {
            if (!s.namesOnlyWhatIs(begun)) {
                return NAMES_NOTHING;
            }
            int refusal = draft.refusal(s);
            if (refusal != ACCEPTED || s.op != SEND) {
                return refusal;
            }
            return Capability.fits(draft.capabilityOf(s.z), parameterOf(s.y)) ? ACCEPTED : NOT_FITTING;
        }

        boolean finish() {
            if (!isOpen || draft.isInBlock()) {
                return false;
            }
            isOpen = false;
            return true;
        }

        boolean giveUp() {
            if (!isOpen) {
                return false;
            }
            isOpen = false;
            begun--;
            return true;
        }

        int capabilityShown(int local) {
            if (!isOpen || !Statement.isLocal(local)) {
                return -1;
            }
            return draft.isHidden(local) ? -2 : draft.capabilityOf(local);
        }

        boolean isFinished(int b) {
            return b >= 0 && b < (isOpen ? begun - 1 : begun);
        }

        Behaviour behaviour(int b) {
            return behaviours[b];
        }

        int parameterOf(int b) {
            return behaviours[b].parameter();
        }

        private static boolean isParameter(int c) {
            return Capability.isOne(c) && Capability.isSendable(c);
        }
    }

    /** What the locals of the open behaviour have behind its last statement. */
    private static final class Draft {
        /** Also what holds answers for an empty local. */
        private static final int EMPTY = -1;

        /** THIS has a place too, so that y needs no case of its own. */
        private final int[] capabilities = new int[LOCALS + 1];
        private final boolean[] hidden = new boolean[LOCALS + 1];
        private final boolean[] becameInBlock = new boolean[LOCALS];
        private boolean inBlock;

        void restart(int parameter) {
            for (int i = 0; i < LOCALS; i++) {
                capabilities[i] = EMPTY;
            }
            capabilities[0] = parameter;
            capabilities[THIS] = REF;
            leaveBlock();
        }

        boolean isInBlock() {
            return inBlock;
        }

        boolean isHidden(int local) {
            return hidden[local];
        }

        int capabilityOf(int local) {
            return capabilities[local];
        }

        /** The refusals 4 to 9, but for what SEND asks of another behaviour. */
        int refusal(Statement s) {
            if (s.op == OPEN && inBlock || s.op == SHUT && !inBlock) {
                return WRONG_BLOCK;
            }
            if (s.looksIntoY() && hidden[s.y] || s.looksIntoZ() && hidden[s.z]) {
                return IS_HIDDEN;
            }
            if (s.looksIntoY() && isEmpty(s.y) || s.looksIntoZ() && isEmpty(s.z)) {
                return IS_EMPTY;
            }
            if (s.op == SWAP && s.y == s.z) {
                return IS_EMPTY;
            }
            switch (s.op) {
                case GET:
                case SHOW:
                    return Capability.isReadable(capabilities[s.y]) ? ACCEPTED : NOT_ABLE;
                case ADD:
                    return Capability.isWritable(capabilities[s.y]) ? ACCEPTED : NOT_ABLE;
                case PUT:
                    return refusalOfStoring(s, Capability.alias(capabilities[s.z]));
                case SWAP:
                    return refusalOfStoring(s, capabilities[s.z]);
                default:
                    return ACCEPTED;
            }
        }

        private int refusalOfStoring(Statement s, int source) {
            int into = capabilities[s.y];
            if (!Capability.isWritable(into)) {
                return NOT_ABLE;
            }
            if (!Capability.isSafe(source, into)) {
                return NOT_SAFE;
            }
            return Capability.fits(source, s.f) ? ACCEPTED : NOT_FITTING;
        }

        /** Changes the locals as an accepted statement does. */
        void follow(Statement s) {
            switch (s.op) {
                case NEW:
                    become(s.x, s.f);
                    break;
                case COPY:
                    become(s.x, Capability.alias(capabilities[s.y]));
                    break;
                case MOVE:
                    become(s.x, emptied(s.y));
                    break;
                case GET:
                    become(s.x, Capability.alias(Capability.view(capabilities[s.y], s.f)));
                    break;
                case SWAP:
                    emptied(s.z);
                    become(s.x, Capability.drawn(capabilities[s.y], s.f));
                    break;
                case SEND:
                    emptied(s.z);
                    break;
                case OPEN:
                    enterBlock();
                    break;
                case SHUT:
                    shut(s.x, s.y);
                    break;
                default:
                    break;
            }
        }

        private boolean isEmpty(int local) {
            return capabilities[local] == EMPTY;
        }

        private void become(int local, int capability) {
            capabilities[local] = capability;
            hidden[local] = false;
            becameInBlock[local] = inBlock;
        }

        /** Empties the local; the capability that it had. */
        private int emptied(int local) {
            int had = capabilities[local];
            capabilities[local] = EMPTY;
            return had;
        }

        private void enterBlock() {
            inBlock = true;
            for (int i = 0; i < LOCALS; i++) {
                hidden[i] = !isEmpty(i) && !Capability.isSendable(capabilities[i]);
            }
            hidden[THIS] = true;
        }

        private void shut(int x, int y) {
            int result = Capability.outOfBlock(emptied(y));
            for (int i = 0; i < LOCALS; i++) {
                if (becameInBlock[i]) {
                    emptied(i);
                }
            }
            leaveBlock();
            become(x, result);
        }

        private void leaveBlock() {
            inBlock = false;
            for (int i = 0; i < LOCALS; i++) {
                hidden[i] = false;
                becameInBlock[i] = false;
            }
            hidden[THIS] = false;
        }
    }

    /** The objects, the fields of objects and actors, and the actors' counts. */
    private static final class Heap {
        /** NONE where no object has the number. */
        private final int[] owners = new int[OBJECTS];
        private final int[] cells = new int[OBJECTS];
        /** A row of fields for each object, then one for each actor. */
        private final int[] held = new int[(OBJECTS + MOST_ACTORS) * FIELDS];
        private final int[] counts = new int[MOST_ACTORS * OBJECTS];

        Heap() {
            Arrays.fill(owners, NONE);
            Arrays.fill(held, NONE);
        }

        static int holderOfActor(int a) {
            return OBJECTS + a;
        }

        boolean exists(int o) {
            return o >= 0 && o < OBJECTS && owners[o] != NONE;
        }

        int ownerOf(int o) {
            return owners[o];
        }

        int cellOf(int o) {
            return cells[o];
        }

        void growCell(int o, int by) {
            cells[o] += by;
        }

        int heldBy(int holder, int k) {
            return held[holder * FIELDS + k];
        }

        void hold(int holder, int k, int o) {
            held[holder * FIELDS + k] = o;
        }

        int countOf(int a, int o) {
            return counts[a * OBJECTS + o];
        }

        void growCount(int a, int o, int by) {
            counts[a * OBJECTS + o] += by;
        }

        /** The number of a new object that the actor owns; NONE if there are too many. */
        int make(int a) {
            for (int o = 0; o < OBJECTS; o++) {
                if (owners[o] == NONE) {
                    owners[o] = a;
                    clear(o);
                    return o;
                }
            }
            return NONE;
        }

        /** An object that had the number before may have left its traces. */
        private void clear(int o) {
            cells[o] = 0;
            for (int k = 0; k < FIELDS; k++) {
                hold(o, k, NONE);
            }
            for (int a = 0; a < MOST_ACTORS; a++) {
                counts[a * OBJECTS + o] = 0;
            }
        }

        void free(int o) {
            owners[o] = NONE;
            for (int i = 0; i < OBJECTS * FIELDS; i++) {
                if (held[i] == o) {
                    held[i] = NONE;
                }
            }
        }
    }

    /** The messages of all queues in the order of their coming; a queue is those of one actor. */
    private static final class Mail {
        private final int[] kinds = new int[MESSAGES];
        private final int[] actorsTo = new int[MESSAGES];
        private final int[] objects = new int[MESSAGES];
        /** The behaviour of a call, the amount of a raise or a lower. */
        private final int[] numbers = new int[MESSAGES];
        private int size;

        int size() {
            return size;
        }

        int room() {
            return MESSAGES - size;
        }

        int sizeFor(int a) {
            int found = 0;
            for (int i = 0; i < size; i++) {
                if (actorsTo[i] == a) {
                    found++;
                }
            }
            return found;
        }

        /** Not to be called when there is no room. */
        void put(int kind, int to, int o, int number) {
            kinds[size] = kind;
            actorsTo[size] = to;
            objects[size] = o;
            numbers[size] = number;
            size++;
        }

        /** The place of the front of the actor's queue; NONE if it is empty. */
        int frontOf(int a) {
            for (int i = 0; i < size; i++) {
                if (actorsTo[i] == a) {
                    return i;
                }
            }
            return NONE;
        }

        boolean isCallTo(int i, int a) {
            return kinds[i] == CALL && actorsTo[i] == a;
        }

        int kindAt(int i) {
            return kinds[i];
        }

        int objectAt(int i) {
            return objects[i];
        }

        int numberAt(int i) {
            return numbers[i];
        }

        void removeAt(int i) {
            size--;
            System.arraycopy(kinds, i + 1, kinds, i, size - i);
            System.arraycopy(actorsTo, i + 1, actorsTo, i, size - i);
            System.arraycopy(objects, i + 1, objects, i, size - i);
            System.arraycopy(numbers, i + 1, numbers, i, size - i);
        }
    }

    /** A walk from object to object, each met by one capability or by several. */
    private static final class Walk {
        private final Heap heap;
        /** For each object a bit for each capability by which it was met. */
        private final int[] metBy = new int[OBJECTS];
        /** The meetings by which the walk goes on: object * CAPABILITIES + capability. */
        private final int[] meetings = new int[OBJECTS * CAPABILITIES];
        private int size;

        Walk(Heap heap) {
            this.heap = heap;
        }

        void start() {
            Arrays.fill(metBy, 0);
            size = 0;
        }

        void startFrom(int o, int capability) {
            start();
            meet(o, capability);
        }

        void meet(int o, int capability) {
            int bit = 1 << capability;
            if (o == NONE || (metBy[o] & bit) != 0) {
                return;
            }
            metBy[o] |= bit;
            if (capability != TAG) {
                meetings[size] = o * CAPABILITIES + capability;
                size++;
            }
        }

        /** Meets what the fields hold by the capabilities of the fields. */
        void followClosure() {
            for (int i = 0; i < size && i < meetings.length; i++) {
                int p = meetings[i] / CAPABILITIES;
                for (int k = 0; k < FIELDS; k++) {
                    meet(heap.heldBy(p, k), k);
                }
            }
        }

        /** Meets what the fields hold by the views of the fields. */
        void followByView() {
            for (int i = 0; i < size && i < meetings.length; i++) {
                int p = meetings[i] / CAPABILITIES;
                int from = meetings[i] % CAPABILITIES;
                for (int k = 0; k < FIELDS; k++) {
                    meet(heap.heldBy(p, k), Capability.view(from, k));
                }
            }
        }

        boolean hasMet(int o) {
            return metBy[o] != 0;
        }

        int rightsOver(int o) {
            int rights = hasMet(o) ? SEEN : 0;
            if ((metBy[o] & Capability.READABLE) != 0) {
                rights += SEEN_READABLE;
            }
            if ((metBy[o] & Capability.WRITABLE) != 0) {
                rights += SEEN_WRITABLE;
            }
            return rights;
        }
    }

    /** What was shown: the latest of it, and how often. */
    private static final class Display {
        private final int[] ring = new int[SHOWN];
        private int times;

        void put(int number) {
            ring[Math.floorMod(times, SHOWN)] = number;
            times++;
        }

        int times() {
            return times;
        }

        int latest(int k) {
            if (k < 0 || k >= SHOWN || k >= times) {
                return 0;
            }
            return ring[Math.floorMod(times - 1 - k, SHOWN)];
        }
    }

    /** Runs behaviours, sends and takes messages, and collects. */
    private static final class Machine {
        private final int actors;
        private final Program program;
        private final Heap heap;
        private final Mail mail;
        private final Walk walk;
        private final Display display;
        private final int[] locals = new int[LOCALS];
        private int timesLost;

        Machine(int actors, Program program, Heap heap, Mail mail, Walk walk, Display display) {
            this.actors = actors;
            this.program = program;
            this.heap = heap;
            this.mail = mail;
            this.walk = walk;
            this.display = display;
        }

        int timesLost() {
            return timesLost;
        }

        /** The kind of the message that was taken; -1 if none waits. */
        int takeMessage(int a) {
            int front = mail.frontOf(a);
            if (front == NONE) {
                return -1;
            }
            int kind = mail.kindAt(front);
            int o = mail.objectAt(front);
            int number = mail.numberAt(front);
            mail.removeAt(front);
            if (kind == CALL) {
                countTaken(a, o, number);
                run(a, o, program.behaviour(number));
            } else {
                heap.growCount(a, o, kind == RAISE ? number : -number);
            }
            return kind;
        }

        private void countTaken(int a, int o, int b) {
            walk.startFrom(o, program.parameterOf(b));
            walk.followClosure();
            for (int p = 0; p < OBJECTS; p++) {
                if (walk.hasMet(p)) {
                    heap.growCount(a, p, heap.ownerOf(p) == a ? -1 : 1);
                }
            }
        }

        private void run(int a, int o, Behaviour behaviour) {
            Arrays.fill(locals, NONE);
            locals[0] = o;
            for (int i = 0; i < behaviour.size(); i++) {
                perform(a, behaviour.at(i));
            }
        }

        /** An emptied local keeps what it held: no accepted statement looks into it again. */
        private void perform(int a, Statement s) {
            switch (s.op) {
                case NEW:
                    locals[s.x] = makeObject(a);
                    break;
                case COPY:
                case MOVE:
                case SHUT:
                    locals[s.x] = locals[s.y];
                    break;
                case GET:
                    locals[s.x] = read(holderOf(a, s.y), s.f);
                    break;
                case PUT:
                    replace(holderOf(a, s.y), s.f, locals[s.z]);
                    break;
                case SWAP:
                    locals[s.x] = replace(holderOf(a, s.y), s.f, locals[s.z]);
                    break;
                case ADD:
                    growCell(locals[s.y], s.z);
                    break;
                case SHOW:
                    showCell(locals[s.y]);
                    break;
                case SEND:
                    send(a, (a + s.x) % actors, locals[s.z], s.y);
                    break;
                default:
                    break;
            }
        }

        private int makeObject(int a) {
            int o = heap.make(a);
            if (o == NONE) {
                timesLost++;
            }
            return o;
        }

        private int holderOf(int a, int y) {
            return y == THIS ? Heap.holderOfActor(a) : locals[y];
        }

        private int read(int holder, int k) {
            return holder == NONE ? NONE : heap.heldBy(holder, k);
        }

        /** What the field held before; NONE if there is no holder. */
        private int replace(int holder, int k, int o) {
            if (holder == NONE) {
                return NONE;
            }
            int before = heap.heldBy(holder, k);
            heap.hold(holder, k, o);
            return before;
        }

        private void growCell(int o, int by) {
            if (o != NONE) {
                heap.growCell(o, by);
            }
        }

        private void showCell(int o) {
            if (o != NONE) {
                display.put(heap.cellOf(o));
            }
        }

        private void send(int a, int to, int o, int b) {
            walk.startFrom(o, program.parameterOf(b));
            walk.followClosure();
            if (mail.room() < 1 + raisesNeeded(a)) {
                timesLost++;
                return;
            }
            for (int p = 0; p < OBJECTS; p++) {
                if (walk.hasMet(p)) {
                    countSent(a, p);
                }
            }
            mail.put(CALL, to, o, b);
        }

        private int raisesNeeded(int a) {
            int needed = 0;
            for (int p = 0; p < OBJECTS; p++) {
                if (walk.hasMet(p) && heap.ownerOf(p) != a && heap.countOf(a, p) < ENOUGH_TO_SEND) {
                    needed++;
                }
            }
            return needed;
        }

        private void countSent(int a, int p) {
            if (heap.ownerOf(p) == a) {
                heap.growCount(a, p, 1);
            } else if (heap.countOf(a, p) >= ENOUGH_TO_SEND) {
                heap.growCount(a, p, -1);
            } else {
                mail.put(RAISE, heap.ownerOf(p), p, RAISED_BY);
                heap.growCount(a, p, RAISED_BY - 1);
            }
        }

        /** How many objects were freed. */
        int collectFor(int a) {
            walk.start();
            meetFields(a);
            walk.followClosure();
            int freed = 0;
            for (int o = 0; o < OBJECTS; o++) {
                if (isUnkept(o) && heap.ownerOf(o) == a && heap.countOf(a, o) == 0) {
                    heap.free(o);
                    freed++;
                }
            }
            for (int o = 0; o < OBJECTS; o++) {
                if (isUnkept(o) && heap.ownerOf(o) != a && heap.countOf(a, o) != 0) {
                    giveBack(a, o);
                }
            }
            return freed;
        }

        private boolean isUnkept(int o) {
            return heap.exists(o) && !walk.hasMet(o);
        }

        private void giveBack(int a, int o) {
            if (mail.room() < 1) {
                return;
            }
            int amount = heap.countOf(a, o);
            mail.put(LOWER, heap.ownerOf(o), o, amount);
            heap.growCount(a, o, -amount);
        }

        void meetFields(int a) {
            for (int k = 0; k < FIELDS; k++) {
                walk.meet(heap.heldBy(Heap.holderOfActor(a), k), k);
            }
        }

        void meetCalls(int a) {
            for (int i = 0; i < mail.size(); i++) {
                if (mail.isCallTo(i, a)) {
                    walk.meet(mail.objectAt(i), program.parameterOf(mail.numberAt(i)));
                }
            }
        }
    }
}
