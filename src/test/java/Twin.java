import java.util.ArrayList;
import java.util.Arrays;
import java.util.List;

/**
 * The document a second time, by other means: kinds are Java's own classes and arrays, so that
 * UNDER is instanceof and fitting is what Java lets stand in an array; an ACT is taken back by
 * doing all the others again on a new hall.
 */
final class Twin {

    static class Plain {
        int knob = 8;
        int uses = 0;

        int turn(int x) {
            uses++;
            return x;
        }

        int load() {
            return 2;
        }

        void rest() {
            uses = 0;
        }
    }

    static class Shaper extends Plain {
        @Override
        int load() {
            return super.load() + 3;
        }
    }

    static class Clip extends Shaper {
        @Override
        int turn(int x) {
            int y = super.turn(x);
            int k = knob < 0 ? -knob : knob;
            if (y > k) {
                return k;
            }
            return y < -k ? -k : y;
        }

        @Override
        int load() {
            return super.load() + (knob < 0 ? -knob : knob);
        }
    }

    static class Fold extends Clip {
        int bends = 0;
    }

    static class Ripple extends Fold {
        @Override
        int turn(int x) {
            int y = super.turn(x);
            if (y != x) {
                bends++;
            }
            return y + Math.floorDiv(x - y, 4);
        }

        @Override
        int load() {
            return super.load() + bends;
        }

        @Override
        void rest() {
            super.rest();
            bends = 0;
        }
    }

    static class Store extends Plain {
        int held = 0;

        @Override
        void rest() {
            super.rest();
            held = 0;
        }
    }

    static class Lag extends Store {
        @Override
        int load() {
            return super.load() + 4;
        }
    }

    static class Echo extends Lag {
        @Override
        int turn(int x) {
            int y = super.turn(x);
            int z = y + Math.floorDiv(held * knob, 16);
            held = y;
            return z;
        }

        @Override
        void rest() {
            super.rest();
            knob = Math.floorDiv(knob, 2);
        }
    }

    static class Hall extends Echo {
        int top = 0;

        @Override
        int turn(int x) {
            int z = super.turn(x);
            held += Math.floorDiv(z, 8);
            top = Math.max(top, z);
            return z;
        }

        @Override
        int load() {
            return super.load() + Math.floorMod(held, 8);
        }
    }

    static class Counter extends Plain {
        int count = 0;

        @Override
        int turn(int x) {
            int y = super.turn(x);
            count++;
            return y + count;
        }

        @Override
        int load() {
            return super.load() + count;
        }

        @Override
        void rest() {
            super.rest();
            count = 0;
        }
    }

    interface Ticker {
        int tick(int n);
    }

    static class Clock extends Counter implements Ticker {
        @Override
        public int tick(int n) {
            count += n + 1;
            return count;
        }

        @Override
        void rest() {
            super.rest();
            count = 100;
        }
    }

    static class Meter implements Ticker {
        int level = 0;

        @Override
        public int tick(int n) {
            level = 3 * level + n;
            return level;
        }
    }

    static final List<Class<?>> KINDS = List.of(Plain.class, Shaper.class, Clip.class, Fold.class, Ripple.class,
        Store.class, Lag.class, Echo.class, Hall.class, Counter.class, Clock.class, Meter.class, Ticker.class,
        int[].class, byte[].class, long[].class, int[][].class, Plain[].class, Shaper[].class, Clip[].class,
        Echo[].class, Ticker[].class, Clock[].class, Plain[][].class, Clip[][].class);

    private static final List<String> RECORDED = List.of("make", "lay", "plug", "pull", "copy", "write", "knob",
        "play", "run", "ticks", "rest", "when");

    /** Says why a call is refused, with what it answers. */
    private static final class Refused extends Exception {
        private static final long serialVersionUID = 1L;
        final int reason;
        final long answer;

        Refused(int reason, long answer) {
            super(null, null, false, false);
            this.reason = reason;
            this.answer = answer;
        }
    }

    private record Call(String name, long[] given) {
        int at(int n) {
            return (int) given[n];
        }
    }

    /** A call that was done, or the lines of a sheet with how often they were. */
    private record Act(List<Call> lines, int times) {
    }

    Object[] shelves = new Object[16];
    List<Object> things = new ArrayList<>();
    private final List<Act> acts = new ArrayList<>();
    private List<Call> sheet = new ArrayList<>();
    boolean recording = false;
    private int why = 0;

    long call(String name, long... given) {
        if (name.equals("why")) {
            return why;
        }
        Call call = new Call(name, given);
        try {
            why = 0;
            return recording && RECORDED.contains(name) ? noteDown(call) : answer(call);
        } catch (Refused refused) {
            why = refused.reason;
            return refused.answer;
        }
    }

    private static void refuseIf(boolean so, int reason) throws Refused {
        if (so) {
            throw new Refused(reason, 0);
        }
    }

    private long noteDown(Call call) throws Refused {
        refuseIf(sheet.size() == 16, 6);
        sheet.add(call);
        return sheet.size();
    }

    private long answer(Call c) throws Refused {
        switch (c.name) {
            case "when":
                throw new Refused(7, 0);
            case "begin":
                refuseIf(recording, 7);
                sheet = new ArrayList<>();
                recording = true;
                return 1;
            case "end":
                refuseIf(!recording, 7);
                recording = false;
                return sheet.size();
            case "carry":
                return carry(c.at(0));
            case "undo":
                refuseIf(recording || acts.isEmpty(), 7);
                acts.remove(acts.size() - 1);
                doAllAgain();
                return acts.size();
            case "acts":
                return acts.size();
            default:
                return RECORDED.contains(c.name) ? act(c) : question(c);
        }
    }

    private long act(Call call) throws Refused {
        Act act = new Act(List.of(call), 1);
        try {
            long answer = perform(call);
            acts.add(act);
            return answer;
        } catch (Refused refused) {
            if (call.name.equals("copy") && refused.reason == 5) {
                acts.add(act);
            }
            throw refused;
        }
    }

    private long carry(int m) throws Refused {
        refuseIf(m < 1 || m > 4, 1);
        refuseIf(recording, 7);
        Act act = new Act(List.copyOf(sheet), m);
        int sum = 0;
        int[] line = new int[1];
        try {
            sum = doLines(act, line);
        } catch (Refused refused) {
            doAllAgain();
            throw new Refused(refused.reason, line[0] + 1);
        }
        acts.add(act);
        return sum;
    }

    private int doLines(Act act, int[] line) throws Refused {
        int sum = 0;
        for (int time = 0; time < act.times; time++) {
            for (line[0] = 0; line[0] < act.lines.size(); line[0]++) {
                Call call = act.lines.get(line[0]);
                long answer = perform(call);
                sum += (int) answer;
                if (call.name.equals("when") && answer == 0) {
                    line[0]++;
                }
            }
        }
        return sum;
    }

    private void doAllAgain() {
        shelves = new Object[16];
        things = new ArrayList<>();
        for (Act act : acts) {
            try {
                doLines(act, new int[1]);
            } catch (Refused refused) {
                if (refused.reason != 5 || act.lines.size() != 1) {
                    throw new IllegalStateException("an act that was done is refused");
                }
            }
        }
    }

    private int numberOf(Object thing) {
        for (int n = 0; n < things.size(); n++) {
            if (things.get(n) == thing) {
                return n;
            }
        }
        throw new IllegalStateException("no such thing");
    }

    private static void wantShelf(int s) throws Refused {
        refuseIf(s < 0 || s > 15, 1);
    }

    private Object wantThing(int s) throws Refused {
        wantShelf(s);
        refuseIf(shelves[s] == null, 2);
        return shelves[s];
    }

    private static boolean isNumberRow(Object o) {
        return o instanceof int[] || o instanceof byte[] || o instanceof long[];
    }

    private static boolean isRow(Object o) {
        return o.getClass().isArray();
    }

    private static boolean isPlayed(Object o) {
        return o instanceof Plain || o instanceof Plain[] || o instanceof Plain[][];
    }

    private static int length(Object row) {
        return java.lang.reflect.Array.getLength(row);
    }

    private static Object[] wantThings(Object o) throws Refused {
        refuseIf(!(o instanceof Object[]), 3);
        return (Object[]) o;
    }

    private static void wantPlace(Object row, int i) throws Refused {
        refuseIf(i < 0 || i >= length(row), 4);
    }

    private long perform(Call c) throws Refused {
        switch (c.name) {
            case "make": return make(c.at(0), c.at(1), c.at(2));
            case "lay":
                wantShelf(c.at(0));
                wantShelf(c.at(1));
                shelves[c.at(1)] = shelves[c.at(0)];
                return shelves[c.at(0)] == null ? 0 : 1;
            case "plug": return plug(c.at(0), c.at(1), c.at(2));
            case "pull": {
                wantShelf(c.at(2));
                Object[] row = wantThings(wantThing(c.at(0)));
                wantPlace(row, c.at(1));
                shelves[c.at(2)] = row[c.at(1)];
                return row[c.at(1)] == null ? 0 : 1;
            }
            case "copy": return copy(c.at(0), c.at(1), c.at(2), c.at(3), c.at(4));
            case "write": return write(c.at(0), c.at(1), c.given[2]);
            case "knob": {
                refuseIf(c.at(1) < -1000 || c.at(1) > 1000, 1);
                Object thing = wantThing(c.at(0));
                refuseIf(!(thing instanceof Plain), 3);
                int was = ((Plain) thing).knob;
                ((Plain) thing).knob = c.at(1);
                return was;
            }
            case "play": {
                Object thing = wantThing(c.at(0));
                refuseIf(!isPlayed(thing), 3);
                return play(thing, c.at(1));
            }
            case "run": return run(c.at(0), c.at(1));
            case "ticks": return ticks(c.at(0), c.at(1));
            case "rest": {
                Object thing = wantThing(c.at(0));
                refuseIf(!isPlayed(thing), 3);
                return rest(thing);
            }
            case "when": return ask(c.at(0), c.at(1));
            default: throw new IllegalStateException(c.name);
        }
    }

    private long make(int s, int k, int n) throws Refused {
        wantShelf(s);
        refuseIf(k < 0 || k > 24 || k == 12 || n < 0 || n > 12, 1);
        refuseIf(things.size() == 60, 6);
        Object thing;
        if (k >= 13) {
            thing = java.lang.reflect.Array.newInstance(KINDS.get(k).getComponentType(), n);
        } else {
            try {
                thing = KINDS.get(k).getDeclaredConstructor().newInstance();
            } catch (ReflectiveOperationException e) {
                throw new IllegalStateException(e);
            }
        }
        things.add(thing);
        shelves[s] = thing;
        return things.size() - 1;
    }

    private long plug(int s, int i, int t) throws Refused {
        wantShelf(t);
        Object[] row = wantThings(wantThing(s));
        wantPlace(row, i);
        long answer = row[i] == null ? 0 : 1;
        try {
            row[i] = shelves[t];
        } catch (ArrayStoreException e) {
            throw new Refused(5, 0);
        }
        return answer;
    }

    private long copy(int s, int i, int t, int j, int n) throws Refused {
        wantShelf(s);
        wantShelf(t);
        refuseIf(shelves[s] == null || shelves[t] == null, 2);
        Object from = shelves[s];
        Object to = shelves[t];
        refuseIf(!isRow(from) || !isRow(to), 3);
        refuseIf((isNumberRow(from) || isNumberRow(to)) && from.getClass() != to.getClass(), 3);
        refuseIf(i < 0 || j < 0 || n < 0 || (long) i + n > length(from) || (long) j + n > length(to), 4);
        if (isNumberRow(from)) {
            System.arraycopy(from, i, to, j, n);
            return n;
        }
        Object[] were = Arrays.copyOf((Object[]) from, length(from), Object[].class);
        for (int p = 0; p < n; p++) {
            try {
                ((Object[]) to)[j + p] = were[i + p];
            } catch (ArrayStoreException e) {
                throw new Refused(5, p);
            }
        }
        return n;
    }

    private long write(int s, int i, long v) throws Refused {
        Object row = wantThing(s);
        refuseIf(!isNumberRow(row), 3);
        wantPlace(row, i);
        if (row instanceof int[] numbers) {
            numbers[i] = (int) v;
        } else if (row instanceof byte[] bytes) {
            bytes[i] = (byte) v;
        } else {
            ((long[]) row)[i] = v;
        }
        return 1;
    }

    private static int play(Object thing, int x) {
        if (thing instanceof Plain part) {
            return part.turn(x);
        }
        int y = x;
        for (Object inner : (Object[]) thing) {
            y = inner == null ? y : play(inner, y);
        }
        return y;
    }

    private static int rest(Object thing) {
        if (thing instanceof Plain part) {
            part.rest();
            return 1;
        }
        int rested = 0;
        for (Object inner : (Object[]) thing) {
            rested += inner == null ? 0 : rest(inner);
        }
        return rested;
    }

    private long run(int s, int t) throws Refused {
        wantShelf(s);
        wantShelf(t);
        refuseIf(shelves[s] == null || shelves[t] == null, 2);
        refuseIf(!isPlayed(shelves[s]) || !(shelves[t] instanceof int[]), 3);
        int[] numbers = (int[]) shelves[t];
        for (int i = 0; i < numbers.length; i++) {
            numbers[i] = play(shelves[s], numbers[i]);
        }
        return numbers.length;
    }

    private long ticks(int s, int n) throws Refused {
        refuseIf(n < 0 || n > 8, 1);
        Object thing = wantThing(s);
        refuseIf(!(thing instanceof Ticker) && !(thing instanceof Ticker[]), 3);
        int sum = 0;
        for (Ticker ticker : thing instanceof Ticker one ? new Ticker[] {one} : (Ticker[]) thing) {
            for (int by = 0; ticker != null && by < n; by++) {
                sum += ticker.tick(by);
            }
        }
        return sum;
    }

    private long ask(int s, int k) throws Refused {
        wantShelf(s);
        refuseIf(k < 0 || k > 24, 1);
        return KINDS.get(k).isInstance(shelves[s]) ? 1 : 0;
    }

    private long question(Call c) throws Refused {
        switch (c.name) {
            case "ask": return ask(c.at(0), c.at(1));
            case "take": return take(c.at(0), c.at(1), c.at(2));
            case "size": {
                Object row = wantThing(c.at(0));
                refuseIf(!isRow(row), 3);
                return length(row);
            }
            case "read": {
                Object row = wantThing(c.at(0));
                refuseIf(!isNumberRow(row), 3);
                wantPlace(row, c.at(1));
                return java.lang.reflect.Array.getLong(row, c.at(1));
            }
            case "at": return at(c.at(0), c.at(1), c.at(2));
            case "tell": return tell(c.at(0), c.at(1));
            default: throw new IllegalStateException(c.name);
        }
    }

    private long at(int s, int i, int j) throws Refused {
        Object outer = wantThing(s);
        refuseIf(!(outer instanceof int[][]) && !(outer instanceof Plain[][]), 3);
        wantPlace(outer, i);
        Object row = ((Object[]) outer)[i];
        refuseIf(row == null, 2);
        wantPlace(row, j);
        if (row instanceof int[] numbers) {
            return numbers[j];
        }
        Object part = ((Object[]) row)[j];
        refuseIf(part == null, 2);
        return numberOf(part);
    }

    private long take(int s, int k, int i) throws Refused {
        wantShelf(s);
        refuseIf(k < 0 || k > 24, 1);
        Object thing = shelves[s];
        refuseIf(thing != null && !KINDS.get(k).isInstance(thing), 3);
        refuseIf(thing == null, 2);
        if (k >= 13) {
            wantPlace(thing, i);
            if (isNumberRow(thing)) {
                return java.lang.reflect.Array.getLong(thing, i);
            }
            Object there = ((Object[]) thing)[i];
            refuseIf(there == null, 2);
            return k == 16 || k >= 23 ? length(there) : numberOf(there);
        }
        switch (k) {
            case 0: return ((Plain) thing).uses;
            case 1: return ((Shaper) thing).load();
            case 2: return Math.abs(((Clip) thing).knob);
            case 3: case 4: return ((Fold) thing).bends;
            case 5: case 6: case 7: case 8: return ((Store) thing).held;
            case 9: case 10: return ((Counter) thing).count;
            case 11: return ((Meter) thing).level;
            default: return KINDS.indexOf(thing.getClass());
        }
    }

    private long tell(int s, int q) throws Refused {
        refuseIf(q < 0 || q > 9, 1);
        Object thing = wantThing(s);
        switch (q) {
            case 0: return KINDS.indexOf(thing.getClass());
            case 1: return numberOf(thing);
            case 2: return thing instanceof Plain part ? part.knob : 0;
            case 3: return thing instanceof Plain part ? part.uses : 0;
            case 4: return thing instanceof Fold part ? part.bends : 0;
            case 5: return thing instanceof Store part ? part.held : 0;
            case 6: return thing instanceof Counter part ? part.count : 0;
            case 7: return thing instanceof Plain part ? part.load() : 0;
            case 8: return thing instanceof Hall part ? part.top : 0;
            default: return thing instanceof Meter meter ? meter.level : 0;
        }
    }
}
