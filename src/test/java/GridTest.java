import java.util.ArrayList;
import java.util.Arrays;
import java.util.List;

/**
 * Every call with every combination of numbers at and next to its edges, on halls that hold
 * something of all sorts, by itself and as a line of a sheet: answer, WHY and all that questions
 * tell afterwards are held against the Twin's.
 */
public final class GridTest {
    private static final String[] FIXTURE = {"make 0 0 0", "make 1 4 0", "make 2 8 0", "make 3 10 0", "make 4 11 0",
        "make 5 13 3", "make 6 14 2", "make 7 15 3", "make 8 16 3", "make 9 17 3", "make 10 19 2", "make 11 21 3",
        "make 12 23 3", "make 13 24 2", "make 14 20 0", "knob 1 -5", "play 1 90", "play 2 70", "rest 3", "ticks 4 3",
        "write 5 0 -9", "write 5 2 2147483647", "write 6 1 -1", "write 7 1 9000000000", "plug 8 1 5", "plug 9 0 1",
        "plug 9 2 3", "plug 10 1 1", "plug 11 0 4", "plug 11 2 3", "plug 12 0 9", "plug 12 1 10", "plug 13 0 10"};

    private static final long[] SHELVES = range(-1, 16);
    private static final long[] KINDS = range(-1, 25);
    private static final long[] PLACES = range(-1, 3);
    private static final Object[][] GRID = {
        {"make", SHELVES, KINDS, Runs.of(-1, 0, 12, 13)},
        {"lay", SHELVES, SHELVES},
        {"plug", SHELVES, PLACES, SHELVES},
        {"pull", SHELVES, PLACES, SHELVES},
        {"copy", SHELVES, Runs.of(-1, 0, 1, 3), SHELVES, Runs.of(-1, 0, 1), Runs.of(-1, 0, 1, 2, 3, Integer.MAX_VALUE)},
        {"write", SHELVES, PLACES, Runs.of(-129, 128, 1L << 31, 1L << 40)},
        {"knob", SHELVES, Runs.of(-1001, -1000, 1000, 1001)},
        {"play", SHELVES, Runs.of(Integer.MIN_VALUE, -9, 0, 9, Integer.MAX_VALUE)},
        {"run", SHELVES, SHELVES},
        {"ticks", SHELVES, Runs.of(-1, 0, 1, 8, 9)},
        {"rest", SHELVES},
        {"when", SHELVES, KINDS},
        {"carry", range(-1, 6)},
        {"ask", SHELVES, KINDS},
        {"take", SHELVES, KINDS, PLACES},
        {"size", SHELVES},
        {"read", SHELVES, PLACES},
        {"at", SHELVES, PLACES, PLACES},
        {"tell", SHELVES, range(-1, 10)},
    };
    /** The first so many of the grid can be lines of a sheet. */
    private static final int LINES = 12;
    /** With those of the fixture and of two looks, a hall is done with ahead of its 512th call. */
    private static final int CALLS_EACH = 30;

    private PatchHall hall;
    private Twin twin;
    private int calls = 0;
    private int compared = 0;
    private int wrong = 0;
    private String subject = "the fixture";

    public static void main(String[] args) {
        GridTest test = new GridTest();
        for (int g = 0; g < GRID.length; g++) {
            test.setUp();
            for (long[] given : combinations(GRID[g])) {
                test.callOnce((String) GRID[g][0], given);
                if (g < LINES) {
                    test.callAsLine((String) GRID[g][0], given);
                }
            }
            test.lookAtAll();
        }
        System.out.println("GridTest: " + test.compared + " answers compared, " + test.wrong + " not as the twin's");
        if (test.wrong != 0) {
            System.exit(1);
        }
    }

    private static long[] range(int first, int last) {
        long[] all = new long[last - first + 1];
        for (int n = 0; n < all.length; n++) {
            all[n] = first + n;
        }
        return all;
    }

    private static List<long[]> combinations(Object[] nameAndValues) {
        List<long[]> all = new ArrayList<>();
        all.add(new long[0]);
        for (int a = 1; a < nameAndValues.length; a++) {
            List<long[]> longer = new ArrayList<>();
            for (long[] given : all) {
                for (long value : (long[]) nameAndValues[a]) {
                    long[] more = Arrays.copyOf(given, given.length + 1);
                    more[given.length] = value;
                    longer.add(more);
                }
            }
            all = longer;
        }
        return all;
    }

    private void setUp() {
        hall = new PatchHall();
        twin = new Twin();
        calls = 0;
        for (String call : FIXTURE) {
            String[] words = call.split(" ");
            long[] given = new long[words.length - 1];
            for (int a = 0; a < given.length; a++) {
                given[a] = Long.parseLong(words[a + 1]);
            }
            sameAnswer(words[0], given);
        }
    }

    private void callOnce(String name, long[] given) {
        long before = twin.call("acts");
        subject = textOf(name, given);
        both(name, given);
        calls++;
        goOn(twin.call("acts") != before);
    }

    private void callAsLine(String name, long[] given) {
        subject = "the line " + textOf(name, given);
        both("begin");
        both("play", 3, 5);
        both(name, given);
        both("end");
        long before = twin.call("acts");
        both("carry", 2);
        calls += 5;
        goOn(twin.call("acts") != before);
    }

    private void goOn(boolean done) {
        if (done || calls > CALLS_EACH) {
            lookAtAll();
            both("undo");
            lookAtAll();
            setUp();
        }
    }

    private void lookAtAll() {
        sameAnswer("acts");
        for (int s = 0; s < 16; s++) {
            for (int q = 0; q < 10; q++) {
                sameAnswer("tell", s, q);
            }
            long kind = twin.call("tell", s, 0);
            for (int i = 0; i < 3 && kind >= 13; i++) {
                sameAnswer("take", s, kind, i);
            }
        }
    }

    private static String textOf(String name, long... given) {
        StringBuilder text = new StringBuilder(name);
        for (long value : given) {
            text.append(' ').append(value);
        }
        return text.toString();
    }

    private void both(String name, long... given) {
        sameAnswer(name, given);
        same("why behind " + textOf(name, given), hall.why(), twin.call("why"));
    }

    private void sameAnswer(String name, long... given) {
        String text = textOf(name, given);
        same(text, new Call(text).on(hall), twin.call(name, given));
    }

    private void same(String text, long got, long want) {
        compared++;
        if (got != want) {
            wrong++;
            System.out.println(subject + ": " + text + " answered " + got + ", due is " + want);
        }
    }
}
