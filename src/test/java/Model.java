import java.util.ArrayDeque;
import java.util.ArrayList;
import java.util.Arrays;
import java.util.Collections;
import java.util.Deque;
import java.util.EnumSet;
import java.util.HashMap;
import java.util.HashSet;
import java.util.List;
import java.util.Map;
import java.util.Set;
import java.util.TreeMap;

/**
 * The document told a second time, as its words go and without regard to cost: with references
 * instead of numbers, sets instead of rows, and recursion instead of loops.
 */
final class Model {
    enum Cap {
        ISO, TRN, REF, VAL, BOX, TAG;

        static final Map<Cap, Cap[]> VIEW = table(
            "ISO: ISO TAG TAG VAL TAG TAG", "TRN: ISO BOX BOX VAL BOX TAG", "REF: ISO TRN REF VAL BOX TAG",
            "VAL: VAL VAL VAL VAL VAL TAG", "BOX: TAG BOX BOX VAL BOX TAG");
        static final Map<Cap, Cap[]> DRAWN = table(
            "ISO: ISO VAL TAG VAL TAG TAG", "TRN: ISO VAL BOX VAL BOX TAG", "REF: ISO TRN REF VAL BOX TAG");
        static final Map<Cap, Cap[]> FITS = table(
            "ISO: ISO TRN REF VAL BOX TAG", "TRN: TRN REF VAL BOX TAG", "REF: REF BOX TAG",
            "VAL: VAL BOX TAG", "BOX: BOX TAG", "TAG: TAG");

        static Map<Cap, Cap[]> table(String... lines) {
            Map<Cap, Cap[]> rows = new HashMap<>();
            for (String line : lines) {
                String[] words = line.substring(5).split(" ");
                Cap[] row = new Cap[words.length];
                for (int i = 0; i < words.length; i++) {
                    row[i] = valueOf(words[i]);
                }
                rows.put(valueOf(line.substring(0, 3)), row);
            }
            return rows;
        }

        boolean readable() {
            return this != TAG;
        }

        boolean writable() {
            return this == ISO || this == TRN || this == REF;
        }

        boolean sendable() {
            return this == ISO || this == VAL || this == TAG;
        }

        Cap alias() {
            return this == ISO ? TAG : this == TRN ? BOX : this;
        }

        boolean fits(Cap other) {
            return List.of(FITS.get(this)).contains(other);
        }

        boolean safeFor(Cap y) {
            return y == REF || sendable() || y == TRN && this == TRN;
        }
    }

    /** An object, or an actor in so far as it has fields. */
    static class Holder {
        final Thing[] fields = new Thing[6];
    }

    static final class Thing extends Holder {
        int number;
        int owner;
        int cell;
    }

    record Message(int kind, Behaviour behaviour, Thing thing, int amount) {
    }

    static final class Actor extends Holder {
        int number;
        final Deque<Message> queue = new ArrayDeque<>();
        final Map<Thing, Integer> counts = new HashMap<>();

        int count(Thing t) {
            return counts.getOrDefault(t, 0);
        }

        void grow(Thing t, int by) {
            counts.merge(t, by, Integer::sum);
        }
    }

    static final class Behaviour {
        Cap parameter;
        final List<int[]> statements = new ArrayList<>();
    }

    final List<Actor> actors = new ArrayList<>();
    final TreeMap<Integer, Thing> things = new TreeMap<>();
    final List<Behaviour> behaviours = new ArrayList<>();
    final List<Integer> shown = new ArrayList<>();
    int lost = 0;

    Behaviour open = null;
    Map<Integer, Cap> locals = new HashMap<>();
    Set<Integer> hidden = new HashSet<>();
    Set<Integer> became = null;

    Model(int n) {
        for (int a = 0; a < (n < 1 ? 1 : n > 4 ? 4 : n); a++) {
            Actor actor = new Actor();
            actor.number = a;
            actors.add(actor);
        }
    }

    int begin(int k) {
        if (open != null || behaviours.size() == 6 || k != 0 && k != 3 && k != 5) {
            return -1;
        }
        open = new Behaviour();
        open.parameter = Cap.values()[k];
        behaviours.add(open);
        locals = new HashMap<>(Map.of(0, open.parameter, 6, Cap.REF));
        hidden = new HashSet<>();
        became = null;
        return behaviours.size() - 1;
    }

    boolean end() {
        if (open == null || became != null) {
            return false;
        }
        open = null;
        return true;
    }

    boolean drop() {
        if (open == null) {
            return false;
        }
        behaviours.remove(behaviours.size() - 1);
        open = null;
        return true;
    }

    int holds(int x) {
        if (open == null || x < 0 || x > 5) {
            return -1;
        }
        return hidden.contains(x) ? -2 : locals.containsKey(x) ? locals.get(x).ordinal() : -1;
    }

    private static boolean below(int number, int bound) {
        return number >= 0 && number < bound;
    }

    /** What each statement uses: the letters of locals, t for y that may be THIS, and so on. */
    private static final String[] USES = {"xf", "xy", "xy", "xtf", "tfz", "xtfz", "y", "y", "dbz", "", "xy"};

    private boolean usesWhatIs(int op, int x, int y, int f, int z) {
        for (char use : USES[op].toCharArray()) {
            boolean is = switch (use) {
                case 'x' -> below(x, 6);
                case 'y' -> below(y, 6);
                case 'z' -> below(z, 6);
                case 't' -> below(y, 7);
                case 'f' -> below(f, 6);
                case 'd' -> below(x, 4);
                default -> below(y, behaviours.size());
            };
            if (!is) {
                return false;
            }
        }
        return true;
    }

    int refusal(int op, int x, int y, int f, int z) {
        if (open == null) {
            return 1;
        }
        if (open.statements.size() == 10) {
            return 2;
        }
        if (!below(op, 11) || !usesWhatIs(op, x, y, f, z)) {
            return 3;
        }
        if (op == 9 && became != null || op == 10 && became == null) {
            return 4;
        }
        Set<Integer> looked = new HashSet<>();
        if (op >= 1 && op <= 7 || op == 10) {
            looked.add(y);
        }
        if (op == 4 || op == 5 || op == 8) {
            looked.add(z);
        }
        if (!Collections.disjoint(looked, hidden)) {
            return 5;
        }
        if (!locals.keySet().containsAll(looked) || op == 5 && y == z) {
            return 6;
        }
        if ((op == 3 || op == 7) && !locals.get(y).readable()
                || (op == 4 || op == 5 || op == 6) && !locals.get(y).writable()) {
            return 7;
        }
        if (op != 4 && op != 5 && op != 8) {
            return 0;
        }
        Cap source = op == 4 ? locals.get(z).alias() : locals.get(z);
        if (op != 8 && !source.safeFor(locals.get(y))) {
            return 8;
        }
        Cap goal = op == 8 ? behaviours.get(y).parameter : Cap.values()[f];
        return source.fits(goal) ? 0 : 9;
    }

    private void become(int x, Cap c) {
        locals.put(x, c);
        hidden.remove(x);
        if (became != null) {
            became.add(x);
        }
    }

    int add(int op, int x, int y, int f, int z) {
        int refusal = refusal(op, x, y, f, z);
        if (refusal != 0) {
            return refusal;
        }
        open.statements.add(new int[] {op, x, y, f, z});
        switch (op) {
            case 0 -> become(x, Cap.values()[f]);
            case 1 -> become(x, locals.get(y).alias());
            case 2 -> become(x, locals.remove(y));
            case 3 -> become(x, Cap.VIEW.get(locals.get(y))[f].alias());
            case 5 -> {
                Cap from = locals.get(y);
                locals.remove(z);
                become(x, Cap.DRAWN.get(from)[f]);
            }
            case 8 -> locals.remove(z);
            case 9 -> {
                became = new HashSet<>();
                locals.forEach((local, c) -> {
                    if (local == 6 || !c.sendable()) {
                        hidden.add(local);
                    }
                });
            }
            case 10 -> {
                Cap had = locals.remove(y);
                locals.keySet().removeAll(became);
                hidden.clear();
                became = null;
                become(x, had.writable() ? Cap.ISO : had == Cap.TAG ? Cap.TAG : Cap.VAL);
            }
            default -> {
            }
        }
        return 0;
    }

    private int waitingInAll() {
        return actors.stream().mapToInt(a -> a.queue.size()).sum();
    }

    boolean post(int a, int b) {
        int finished = behaviours.size() - (open == null ? 0 : 1);
        if (!below(a, actors.size()) || !below(b, finished) || waitingInAll() == 20) {
            return false;
        }
        actors.get(a).queue.add(new Message(0, behaviours.get(b), null, 0));
        return true;
    }

    /** Puts the closure of t by c into the set; readably has those of it that were opened. */
    private void close(Thing t, Cap c, Set<Thing> closure, Set<Thing> readably) {
        if (t == null) {
            return;
        }
        closure.add(t);
        if (c != Cap.TAG && readably.add(t)) {
            for (Cap k : Cap.values()) {
                close(t.fields[k.ordinal()], k, closure, readably);
            }
        }
    }

    private List<Thing> byNumber(Set<Thing> set) {
        List<Thing> sorted = new ArrayList<>(set);
        sorted.sort((s, t) -> s.number - t.number);
        return sorted;
    }

    private List<Thing> closure(Thing t, Cap c) {
        Set<Thing> closure = new HashSet<>();
        close(t, c, closure, new HashSet<>());
        return byNumber(closure);
    }

    int step(int a) {
        if (!below(a, actors.size()) || actors.get(a).queue.isEmpty()) {
            return -1;
        }
        Actor actor = actors.get(a);
        Message m = actor.queue.remove();
        switch (m.kind) {
            case 1 -> actor.grow(m.thing, m.amount);
            case 2 -> actor.grow(m.thing, -m.amount);
            default -> {
                for (Thing t : closure(m.thing, m.behaviour.parameter)) {
                    actor.grow(t, t.owner == a ? -1 : 1);
                }
                run(actor, m.behaviour, m.thing);
            }
        }
        return m.kind;
    }

    private void run(Actor actor, Behaviour behaviour, Thing parameter) {
        Thing[] held = new Thing[6];
        held[0] = parameter;
        for (int[] s : behaviour.statements) {
            int x = s[1];
            int y = s[2];
            int f = s[3];
            int z = s[4];
            Holder holder = s[0] < 3 || s[0] > 5 ? null : y == 6 ? actor : held[y];
            switch (s[0]) {
                case 0 -> held[x] = create(actor);
                case 1 -> held[x] = held[y];
                case 2, 10 -> {
                    Thing moved = held[y];
                    held[y] = null;
                    held[x] = moved;
                }
                case 3 -> held[x] = holder == null ? null : holder.fields[f];
                case 4 -> {
                    if (holder != null) {
                        holder.fields[f] = held[z];
                    }
                }
                case 5 -> {
                    Thing stored = held[z];
                    held[z] = null;
                    held[x] = holder == null ? null : holder.fields[f];
                    if (holder != null) {
                        holder.fields[f] = stored;
                    }
                }
                case 6 -> {
                    if (held[y] != null) {
                        held[y].cell += z;
                    }
                }
                case 7 -> {
                    if (held[y] != null) {
                        shown.add(0, held[y].cell);
                    }
                }
                case 8 -> {
                    Thing sent = held[z];
                    held[z] = null;
                    send(actor, actors.get((actor.number + x) % actors.size()), behaviours.get(y), sent);
                }
                default -> {
                }
            }
        }
    }

    private Thing create(Actor actor) {
        for (int number = 0; number < 16; number++) {
            if (!things.containsKey(number)) {
                Thing t = new Thing();
                t.number = number;
                t.owner = actor.number;
                things.put(number, t);
                return t;
            }
        }
        lost++;
        return null;
    }

    private void send(Actor from, Actor to, Behaviour behaviour, Thing sent) {
        List<Thing> closure = closure(sent, behaviour.parameter);
        long raises = closure.stream().filter(t -> t.owner != from.number && from.count(t) < 2).count();
        if (waitingInAll() + 1 + raises > 20) {
            lost++;
            return;
        }
        for (Thing t : closure) {
            if (t.owner == from.number) {
                from.grow(t, 1);
            } else if (from.count(t) >= 2) {
                from.grow(t, -1);
            } else {
                actors.get(t.owner).queue.add(new Message(1, null, t, 8));
                from.grow(t, 7);
            }
        }
        to.queue.add(new Message(0, behaviour, sent, 0));
    }

    int collect(int a) {
        if (!below(a, actors.size())) {
            return -1;
        }
        Actor actor = actors.get(a);
        Set<Thing> kept = new HashSet<>();
        Set<Thing> readably = new HashSet<>();
        for (Cap k : Cap.values()) {
            close(actor.fields[k.ordinal()], k, kept, readably);
        }
        List<Thing> freed = new ArrayList<>();
        for (Thing t : things.values()) {
            if (t.owner == a && !kept.contains(t) && actor.count(t) == 0) {
                freed.add(t);
            }
        }
        freed.forEach(this::free);
        for (Thing t : things.values()) {
            if (t.owner != a && !kept.contains(t) && actor.count(t) != 0 && waitingInAll() < 20) {
                actors.get(t.owner).queue.add(new Message(2, null, t, actor.count(t)));
                actor.counts.remove(t);
            }
        }
        return freed.size();
    }

    private void free(Thing freed) {
        things.remove(freed.number);
        for (Thing t : things.values()) {
            for (int k = 0; k < 6; k++) {
                if (t.fields[k] == freed) {
                    t.fields[k] = null;
                }
            }
        }
        for (Actor a : actors) {
            // The document says nothing of these, since the counts are there to keep them from being.
            boolean held = Arrays.asList(a.fields).contains(freed);
            boolean named = a.queue.stream().anyMatch(m -> m.thing == freed);
            if (held || named) {
                throw new IllegalStateException("freed while an actor or a message has it: " + freed.number);
            }
        }
    }

    int waiting(int a) {
        return below(a, actors.size()) ? actors.get(a).queue.size() : -1;
    }

    int owner(int o) {
        return things.containsKey(o) ? things.get(o).owner : -1;
    }

    int cell(int o) {
        return things.containsKey(o) ? things.get(o).cell : 0;
    }

    int count(int a, int o) {
        return below(a, actors.size()) && things.containsKey(o) ? actors.get(a).count(things.get(o)) : -1;
    }

    private static int numberIn(Holder holder, int k) {
        return holder == null || !below(k, 6) || holder.fields[k] == null ? -1 : holder.fields[k].number;
    }

    int field(int a, int k) {
        return below(a, actors.size()) ? numberIn(actors.get(a), k) : -1;
    }

    int inner(int o, int k) {
        return numberIn(things.get(o), k);
    }

    private void see(Thing t, Cap c, Map<Thing, Set<Cap>> seen) {
        if (t == null || !seen.computeIfAbsent(t, key -> EnumSet.noneOf(Cap.class)).add(c) || c == Cap.TAG) {
            return;
        }
        for (int k = 0; k < 6; k++) {
            see(t.fields[k], Cap.VIEW.get(c)[k], seen);
        }
    }

    int rights(int a, int o) {
        if (!below(a, actors.size()) || !things.containsKey(o)) {
            return 0;
        }
        Map<Thing, Set<Cap>> seen = new HashMap<>();
        for (Cap k : Cap.values()) {
            see(actors.get(a).fields[k.ordinal()], k, seen);
        }
        for (Message m : actors.get(a).queue) {
            if (m.kind == 0) {
                see(m.thing, m.behaviour.parameter, seen);
            }
        }
        Set<Cap> by = seen.getOrDefault(things.get(o), Set.of());
        return (by.isEmpty() ? 0 : 1) + (by.stream().anyMatch(Cap::readable) ? 2 : 0)
            + (by.stream().anyMatch(Cap::writable) ? 4 : 0);
    }

    int shown(int k) {
        return k == -1 ? shown.size() : below(k, 16) && k < shown.size() ? shown.get(k) : 0;
    }

    int garbage() {
        Set<Thing> reached = new HashSet<>();
        for (Actor a : actors) {
            for (Cap k : Cap.values()) {
                reached.addAll(closure(a.fields[k.ordinal()], k));
            }
            for (Message m : a.queue) {
                if (m.kind == 0) {
                    reached.addAll(closure(m.thing, m.behaviour.parameter));
                }
            }
        }
        int garbage = 0;
        for (Thing t : things.values()) {
            garbage += reached.contains(t) ? 0 : 1;
        }
        return garbage;
    }

    int lost() {
        return lost;
    }
}
