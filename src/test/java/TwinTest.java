import java.util.ArrayList;
import java.util.Arrays;
import java.util.List;
import java.util.Random;

/** Long runs of calls by dice with fixed seeds, each answer and WHY held against the Twin's. */
public final class TwinTest {
    private static final int HALLS = 1500;
    private static final int CALLS = 400;
    private static final long[] EDGES = {Integer.MIN_VALUE, Integer.MAX_VALUE, -1, 0, 1, 16, 12, 13, 25, -1000, 1000,
        1001, -1001, Long.MIN_VALUE, Long.MAX_VALUE, 1L << 32, 127, 128, 255, -129};
    /** Acts that build stand here more often, so that a hall stays full of things that can be played. */
    private static final String[] NAMES = {"make", "make", "make", "plug", "plug", "plug", "plug", "lay", "pull",
        "copy", "copy", "copy", "write", "write", "knob", "play", "play", "run", "run", "ticks", "rest", "when", "when",
        "begin", "end", "end", "carry", "carry", "undo", "acts", "ask", "take", "take", "size", "read", "at", "tell",
        "tell"};

    private final Random dice;
    private final PatchHall hall = new PatchHall();
    private final Twin twin = new Twin();
    private final List<String> calls = new ArrayList<>();
    private boolean same = true;

    private TwinTest(long seed) {
        dice = new Random(seed);
    }

    public static void main(String[] args) {
        int wrong = 0;
        for (long seed = 1; seed <= HALLS && wrong < 5; seed++) {
            TwinTest test = new TwinTest(seed);
            test.goThrough();
            if (!test.same) {
                wrong++;
                System.out.println("seed " + seed + ":\n  " + String.join("\n  ", test.calls));
            }
        }
        System.out.println("TwinTest: " + HALLS + " halls, " + wrong + " not as the twin");
        if (wrong != 0) {
            System.exit(1);
        }
    }

    private void goThrough() {
        int made = dice.nextInt(4) == 0 ? 60 : dice.nextInt(24);
        int plugged = dice.nextInt(40);
        for (int n = 0; n < CALLS; n++) {
            String name = NAMES[dice.nextInt(NAMES.length)];
            if (n < made) {
                name = "make";
            } else if (n < made + plugged) {
                name = "plug";
            }
            both(name, arguments(name));
        }
        if (twin.recording) {
            both("end");
        }
        for (int s = 0; s < 16 && same; s++) {
            lookAt(s);
        }
        for (int n = 0; n < 12 && same; n++) {
            both("undo");
            lookAt(dice.nextInt(16));
        }
    }

    private void lookAt(int s) {
        both("tell", s, 0);
        for (int i = 0; i < 12 && same; i += 5) {
            both("take", s, twin.call("tell", s, 0), i);
        }
        both("tell", s, 2 + dice.nextInt(8));
    }

    private void both(String name, long... given) {
        if (!same) {
            return;
        }
        String[] words = new String[given.length + 1];
        words[0] = name;
        for (int a = 0; a < given.length; a++) {
            words[a + 1] = Long.toString(given[a]);
        }
        long want = twin.call(name, given);
        long wantWhy = twin.call("why");
        long got = new Call(String.join(" ", words)).on(hall);
        long gotWhy = hall.why();
        calls.add(String.join(" ", words) + " = " + got + " ! " + gotWhy);
        if (got != want || gotWhy != wantWhy) {
            same = false;
            calls.add("due is " + want + " ! " + wantWhy);
        }
    }

    private long[] arguments(String name) {
        long[] given = likely(name);
        if (given.length > 0 && dice.nextInt(25) == 0) {
            int a = dice.nextInt(given.length);
            long edge = EDGES[dice.nextInt(EDGES.length)];
            given[a] = name.equals("write") && a == 2 ? edge : (int) edge;
        }
        return given;
    }

    private long[] likely(String name) {
        switch (name) {
            case "make": return of(shelf(), dice.nextInt(25), dice.nextInt(3) == 0 ? dice.nextInt(13) : 2 + dice.nextInt(4));
            case "lay": return of(dice.nextInt(8) == 0 ? shelf() : on(Object.class), shelf());
            case "plug": return plug();
            case "pull": return of(on(Object[].class), dice.nextInt(4), shelf());
            case "copy": return copy();
            case "write": return of(numbers(), dice.nextInt(4), dice.nextInt(2) == 0 ? number() : dice.nextLong());
            case "knob": return of(on(Twin.Plain.class), dice.nextInt(2001) - 1000);
            case "play": return of(played(), number());
            case "run": return of(played(), on(int[].class));
            case "ticks": return of(dice.nextBoolean() ? on(Twin.Ticker.class) : on(Twin.Ticker[].class),
                dice.nextInt(9));
            case "rest": return of(played());
            case "when": case "ask": return of(shelf(), dice.nextInt(25));
            case "carry": return of(1 + dice.nextInt(4));
            case "take": return take();
            case "size": return of(shelf());
            case "read": return of(numbers(), dice.nextInt(4));
            case "at": return of(dice.nextBoolean() ? on(int[][].class) : on(Twin.Plain[][].class), dice.nextInt(4),
                dice.nextInt(4));
            case "tell": return of(shelf(), dice.nextInt(10));
            default: return of();
        }
    }

    private static long[] of(long... given) {
        return given;
    }

    private long shelf() {
        return dice.nextInt(16);
    }

    private long number() {
        return dice.nextInt(4) == 0 ? dice.nextInt() : dice.nextInt(400) - 200;
    }

    private long numbers() {
        return on(List.of(int[].class, byte[].class, long[].class).get(dice.nextInt(3)));
    }

    private long played() {
        return on(List.of(Twin.Plain.class, Twin.Plain[].class, Twin.Plain[][].class).get(dice.nextInt(3)));
    }

    /** A shelf that holds such a thing, if there is one. */
    private long on(Class<?> wanted) {
        int first = dice.nextInt(16);
        for (int n = 0; n < 16; n++) {
            if (wanted.isInstance(twin.shelves[(first + n) % 16])) {
                return (first + n) % 16;
            }
        }
        return first;
    }

    private long[] plug() {
        long s = on(dice.nextInt(3) == 0 ? Object[][].class : Object[].class);
        Object row = twin.shelves[(int) s];
        boolean fitting = row != null && row.getClass().isArray() && dice.nextInt(4) > 0;
        return of(s, dice.nextInt(4), fitting ? on(row.getClass().getComponentType()) : shelf());
    }

    private long[] copy() {
        long s = dice.nextInt(3) == 0 ? numbers() : on(Object[].class);
        Object row = twin.shelves[(int) s];
        long t = row == null || dice.nextBoolean() ? on(Object[].class) : on(row.getClass());
        return of(s, dice.nextInt(3), dice.nextInt(4) == 0 ? s : t, dice.nextInt(3), dice.nextInt(4));
    }

    private long[] take() {
        long s = shelf();
        long[] fitting = new long[25];
        int found = 0;
        for (int k = 0; k < 25; k++) {
            if (Twin.KINDS.get(k).isInstance(twin.shelves[(int) s])) {
                fitting[found++] = k;
            }
        }
        long k = found > 0 && dice.nextInt(6) > 0 ? Arrays.copyOf(fitting, found)[dice.nextInt(found)]
            : dice.nextInt(25);
        return of(s, k, dice.nextInt(4));
    }
}
