import java.util.ArrayList;
import java.util.List;

/** The boundary cases of "Terms", a run for each sentence that names one; its words are the title. */
public final class TermsEdgesTest {
    private static final long[] PARTS = {0, 1, 2, 3, 4, 5, 6, 7, 8, 9, 10};
    private static final long[] NUMBER_ROWS = {13, 14, 15};
    private static final long[] ROWS_OF_THINGS = {16, 17, 18, 19, 20, 21, 22, 23, 24};

    public static void main(String[] args) {
        Runs runs = new Runs("TermsEdgesTest");
        sumsWrap(runs);
        productsWrap(runs);
        roundedDown(runs);
        withoutSign(runs);
        numbersOfThings(runs);
        mostThings(runs);
        places(runs);
        placesAtFirst(runs);
        placesOfNumbers(runs);
        shelves(runs);
        partsAtFirst(runs);
        whatItHasNot(runs);
        turns(runs);
        loads(runs);
        rests(runs);
        ticks(runs);
        playsOfLittle(runs);
        playsOfMost(runs);
        acts(runs);
        takenBack(runs);
        sheet(runs);
        recording(runs);
        why(runs);
        runs.end();
    }

    private static void sumsWrap(Runs runs) {
        String title = "numbers are ints that wrap: ";
        runs.run(title + "y + COUNT, not yet", "make 0 9 0 = 0", "play 0 2147483646 = 2147483647");
        runs.run(title + "y + COUNT", "make 0 9 0 = 0", "play 0 2147483647 = -2147483648");
        runs.run(title + "y + COUNT, lowest", "make 0 9 0 = 0", "play 0 -2147483648 = -2147483647");
        String[] echo = {"make 0 7 0 = 0", "play 0 16 = 16"};
        runs.run(title + "y + HELD's part, not yet", Runs.with(echo, "play 0 2147483639 = 2147483647"));
        runs.run(title + "y + HELD's part", Runs.with(echo, "play 0 2147483640 = -2147483648"));
        runs.run(title + "y - HELD's part, not yet", echo[0], "play 0 -16 = -16", "play 0 -2147483640 = -2147483648");
        runs.run(title + "y - HELD's part", echo[0], "play 0 -16 = -16", "play 0 -2147483641 = 2147483647");
        runs.run(title + "HELD grows, not yet", "make 0 8 0 = 0", "play 0 1908874353 = 1908874353",
            "tell 0 5 = 2147483647");
        runs.run(title + "HELD grows", "make 0 8 0 = 0", "play 0 1908874354 = 1908874354", "tell 0 5 = -2147483648");
        runs.run(title + "HELD shrinks, not yet", "make 0 8 0 = 0", "play 0 -1908874353 = -1908874353",
            "tell 0 5 = -2147483648");
        runs.run(title + "HELD shrinks", "make 0 8 0 = 0", "play 0 -1908874354 = -1908874354", "tell 0 5 = 2147483647");
        String[] sheet = {"make 0 0 0 = 0", "begin = 1", "play 0 2147483647 = 1", "play 0 # = 2", "end = 2"};
        runs.each(title + "carry's sum, not yet", Runs.of(0), Runs.with(sheet, "carry 1 = 2147483647"));
        runs.each(title + "carry's sum", Runs.of(1), Runs.with(sheet, "carry 1 = -2147483648"));
    }

    private static void productsWrap(Runs runs) {
        String title = "numbers are ints that wrap: ";
        String make = "make 0 7 0 = 0";
        runs.run(title + "HELD times KNOB, not yet", make, "play 0 268435455 = 268435455", "play 0 0 = 134217727");
        runs.run(title + "HELD times KNOB", make, "play 0 268435456 = 268435456", "play 0 0 = -134217728");
        runs.run(title + "HELD times KNOB, lowest", make, "play 0 -268435456 = -268435456", "play 0 0 = -134217728");
        runs.run(title + "HELD times KNOB, below", make, "play 0 -268435457 = -268435457", "play 0 0 = 134217727");
        // Ahead of its first wrap no TICKS bring LEVEL nearer to the edge than this run, and over it than the next.
        runs.run(title + "the sum of TICKS, and 3 times LEVEL in the last row", "make 0 11 0 = 0", "ticks 0 3 = 6",
            "ticks 0 8 = 51640", "ticks 0 8 = 338901880", "ticks 0 2 = -1583338851", "tell 0 9 = 2033721334",
            "ticks 0 1 = 1806196706", "tell 0 9 = 1806196706");
        List<String> rows = new ArrayList<>(List.of("make 0 11 0 = 0", "ticks 0 4 = 24"));
        for (int level = 54; level > 0 && level <= 774840978; level *= 3) {
            rows.add("ticks 0 1 = " + level);
        }
        runs.run(title + "LEVEL becomes one below 0", Runs.with(rows, "tell 0 9 = 774840978", "ticks 0 1 = -1970444362",
            "tell 0 9 = -1970444362"));
        runs.run(title + "the sum of a row's TICKS", "make 0 11 0 = 0", "ticks 0 3 = 6", "ticks 0 8 = 51640",
            "ticks 0 8 = 338901880", "make 1 21 2 = 1", "plug 1 0 0 = 0", "plug 1 1 0 = 0", "ticks 1 1 = -1583338852",
            "tell 0 9 = 2033721333");
    }

    private static void roundedDown(Runs runs) {
        int[][] halves = {{-1000, -500}, {-999, -500}, {-3, -2}, {-2, -1}, {-1, -1}, {0, 0}, {1, 0}, {2, 1}, {3, 1},
            {999, 499}, {1000, 500}};
        for (int[] half : halves) {
            runs.run("rounded down: KNOB >> 1 of " + half[0], "make 0 7 0 = 0", "knob 0 " + half[0] + " = 8",
                "rest 0 = 1", "tell 0 2 = " + half[1]);
        }
        int[][] quarters = {{-13, -10}, {-12, -9}, {-11, -9}, {-9, -9}, {-8, -8}, {8, 8}, {9, 8}, {11, 8}, {12, 9},
            {13, 9}};
        for (int[] quarter : quarters) {
            runs.run("rounded down: (x - y) >> 2, x is " + quarter[0], "make 0 4 0 = 0",
                "play 0 " + quarter[0] + " = " + quarter[1]);
        }
        int[][] eighths = {{-9, -11}, {-8, -9}, {-7, -8}, {-1, -2}, {0, 0}, {7, 7}, {8, 9}, {9, 10}};
        for (int[] eighth : eighths) {
            runs.run("rounded down: z >> 3 of " + eighth[0], "make 0 8 0 = 0",
                "play 0 " + eighth[0] + " = " + eighth[0], "tell 0 5 = " + eighth[1]);
        }
        int[][] sixteenths = {{-33, -3}, {-32, -2}, {-17, -2}, {-16, -1}, {-15, -1}, {-1, -1}, {0, 0}, {1, 0}, {15, 0},
            {16, 1}, {17, 1}};
        for (int[] sixteenth : sixteenths) {
            runs.run("rounded down: (HELD times KNOB) >> 4 of " + sixteenth[0], "make 0 7 0 = 0", "knob 0 1 = 8",
                "play 0 " + sixteenth[0] + " = " + sixteenth[0], "play 0 0 = " + sixteenth[1]);
            runs.run("rounded down: .. with a KNOB below 0", "make 0 7 0 = 0", "knob 0 -1 = 8",
                "play 0 " + -sixteenth[0] + " = " + -sixteenth[0], "play 0 0 = " + sixteenth[1]);
        }
    }

    private static void withoutSign(Runs runs) {
        for (int knob : new int[] {-1000, -999, -1, 0, 1, 999, 1000}) {
            int most = knob < 0 ? -knob : knob;
            runs.run("|KNOB| of " + knob, "make 0 2 0 = 0", "knob 0 " + knob + " = 8", "take 0 2 0 = " + most,
                "tell 0 7 = " + (5 + most), "tell 0 2 = " + knob, "play 0 " + (most - 1) + " = " + Math.max(most - 1,
                -most), "play 0 " + most + " = " + most, "play 0 " + (most + 1) + " = " + most,
                "play 0 " + (1 - most) + " = " + Math.min(1 - most, most), "play 0 " + -most + " = " + -most,
                "play 0 " + (-most - 1) + " = " + -most, "play 0 2147483647 = " + most,
                "play 0 -2147483648 = " + -most);
        }
    }

    private static void numbersOfThings(Runs runs) {
        runs.run("NUMBER: how many things there were when it was made", "make 0 0 0 = 0", "make 0 13 1 = 1",
            "make 0 11 0 = 2", "tell 0 1 = 2", "lay 9 0 = 0", "make 0 24 0 = 3", "tell 0 1 = 3");
        runs.run("NUMBER: those that were taken back are no more", "make 0 0 0 = 0", "make 1 1 0 = 1", "undo = 1",
            "make 2 2 0 = 1", "tell 2 1 = 1", "tell 2 0 = 2", "undo = 1", "undo = 0", "make 3 3 0 = 0");
        runs.run("NUMBER: those of a carry that ended early are no more", "begin = 1", "make 0 0 0 = 1",
            "make 1 1 0 = 2", "rest 5 = 3", "end = 3", "carry 1 = 3 ! 2", "make 2 2 0 = 0");
    }

    private static List<String> thingsMade(int n) {
        List<String> rows = new ArrayList<>();
        for (int made = 0; made < n; made++) {
            rows.add("make " + made % 16 + " " + (made % 12) + " 12 = " + made);
        }
        return rows;
    }

    private static void mostThings(Runs runs) {
        String title = "there are at most 60: ";
        runs.run(title + "the 59th, the 60th, the 61st", Runs.with(thingsMade(58), "make 0 0 0 = 58", "make 1 0 0 = 59",
            "make 2 0 0 = 0 ! 6", "make 3 24 12 = 0 ! 6", "tell 1 1 = 59"));
        runs.run(title + "one that was taken back leaves room for one", Runs.with(thingsMade(60), "undo = 59",
            "make 2 13 12 = 59", "make 2 13 12 = 0 ! 6", "write 2 11 5 = 1", "read 2 11 = 5", "undo = 60", "undo = 59",
            "make 5 17 12 = 59", "take 5 17 11 = 0 ! 2"));
        runs.run(title + "a sheet that makes the 59th and 60th", Runs.with(thingsMade(58), "begin = 1",
            "make 7 0 0 = 1", "make 8 1 0 = 2", "end = 2", "carry 1 = 117", "tell 8 1 = 59", "carry 1 = 1 ! 6",
            "undo = 58", "carry 2 = 1 ! 6", "make 0 0 0 = 58", "carry 1 = 2 ! 6"));
        runs.run(title + "lines that make are not refused when they are recorded", Runs.with(thingsMade(60),
            "begin = 1", "make 0 0 0 = 1", "end = 1", "carry 1 = 1 ! 6"));
    }

    private static void places(Runs runs) {
        for (int n : new int[] {0, 1, 2, 11, 12}) {
            for (long kind : NUMBER_ROWS) {
                placesOf(runs, kind, n, "write 0 # 5 = 1", "read 0 # = 5", "take 0 " + kind + " # = 5");
            }
            for (long kind : ROWS_OF_THINGS) {
                placesOf(runs, kind, n, "plug 0 # 9 = 0", "pull 0 # 8 = 0", "take 0 " + kind + " # = 0 ! 2");
            }
        }
        runs.each("a row has 0 to 12 places", Runs.of(13, 16, 17, 21, 24), "make 0 # 12 = 0", "make 1 # 0 = 1",
            "make 2 # 13 = 0 ! 1", "make 3 # -1 = 0 ! 1", "size 0 = 12", "size 1 = 0");
    }

    private static void placesOf(Runs runs, long kind, int n, String... atPlace) {
        String title = "as many places as it was made with: " + kind + " of " + n;
        String[] made = {"make 0 " + kind + " " + n + " = 0", "size 0 = " + n};
        String[] refused = new String[atPlace.length];
        for (int r = 0; r < atPlace.length; r++) {
            refused[r] = atPlace[r].replaceAll("=.*", "= 0 ! 4");
        }
        runs.each(title, Runs.of(-1, n, n + 1), Runs.with(made, refused));
        if (n > 0) {
            runs.each(title, Runs.of(0, n - 1), Runs.with(Runs.with(made, atPlace), "size 0 = " + n));
        }
    }

    private static void placesAtFirst(Runs runs) {
        for (long kind = 13; kind < 25; kind++) {
            List<String> rows = new ArrayList<>(List.of("make 1 0 0 = 0", "make 0 " + kind + " 12 = 1"));
            for (int i = 0; i < 12; i++) {
                rows.add("take 0 " + kind + " " + i + " = 0" + (kind < 16 ? "" : " ! 2"));
            }
            runs.run("0 or NOTHING at first: " + kind, Runs.with(rows));
        }
        for (long kind : ROWS_OF_THINGS) {
            runs.run("NOTHING at first, also where a thing stood that was taken back: " + kind, "make 0 15 12 = 0",
                "write 0 0 1 = 1", "write 0 11 2 = 1", "undo = 2", "undo = 1", "undo = 0", "make 0 " + kind + " 12 = 0",
                "take 0 " + kind + " 0 = 0 ! 2", "take 0 " + kind + " 11 = 0 ! 2");
        }
    }

    private static void placesOfNumbers(Runs runs) {
        long[][] ints = {{2147483646, 2147483646}, {2147483647, 2147483647}, {2147483648L, -2147483648},
            {-2147483648, -2147483648}, {-2147483649L, 2147483647}, {4294967295L, -1}, {4294967296L, 0},
            {Long.MIN_VALUE, 0}, {Long.MAX_VALUE, -1}};
        long[][] bytes = {{126, 126}, {127, 127}, {128, -128}, {-127, -127}, {-128, -128}, {-129, 127}, {255, -1},
            {256, 0}, {-256, 0}, {2147483648L, 0}, {Long.MIN_VALUE, 0}, {Long.MAX_VALUE, -1}};
        for (long[] v : ints) {
            heldAs(runs, 13, v[0], v[1]);
            heldAs(runs, 15, v[0], v[0]);
        }
        for (long[] v : bytes) {
            heldAs(runs, 14, v[0], v[1]);
        }
    }

    private static void heldAs(Runs runs, int kind, long v, long held) {
        runs.run("what a place of " + kind + " holds of " + v, "make 0 " + kind + " 3 = 0", "write 0 1 " + v + " = 1",
            "read 0 1 = " + held, "take 0 " + kind + " 1 = " + held, "read 0 0 = 0", "read 0 2 = 0");
    }

    private static void shelves(Runs runs) {
        runs.run("the 16 shelves hold a thing each", "make 0 0 0 = 0", "make 15 1 0 = 1", "make 14 2 0 = 2",
            "make 16 3 0 = 0 ! 1", "make -1 3 0 = 0 ! 1", "tell 0 0 = 0", "tell 15 0 = 1", "tell 14 0 = 2",
            "tell 16 0 = 0 ! 1", "tell -1 0 = 0 ! 1");
        runs.run("shelves and places may hold the same thing", "make 0 7 0 = 0", "make 1 17 3 = 1", "make 2 20 2 = 2",
            "lay 0 15 = 1", "plug 1 0 0 = 0", "plug 1 2 15 = 0", "plug 2 1 0 = 0", "knob 15 -16 = 8", "tell 0 2 = -16",
            "play 1 5 = 0", "tell 15 3 = 2", "tell 0 5 = 5", "take 1 17 0 = 0", "take 1 17 2 = 0", "take 2 20 1 = 0",
            "lay 9 0 = 0", "tell 15 3 = 2", "pull 2 1 0 = 1", "tell 0 5 = 5");
    }

    private static void partsAtFirst(Runs runs) {
        runs.each("KNOB is 8 at first, all else 0", PARTS, "make 5 13 0 = 0", "make 0 # 12 = 1", "tell 0 0 = #",
            "tell 0 1 = 1", "tell 0 2 = 8", "tell 0 3 = 0", "tell 0 4 = 0", "tell 0 5 = 0", "tell 0 6 = 0",
            "tell 0 8 = 0", "tell 0 9 = 0");
        runs.run("LEVEL is 0 at first", "make 0 11 12 = 0", "tell 0 9 = 0", "take 0 11 0 = 0", "tell 0 2 = 0");
    }

    /** A part that is played by 40, -40 and ticked where it ticks has to show what its kind has, no more. */
    private static void whatItHasNot(Runs runs) {
        runs.each("no BENDS, HELD, COUNT, TOP, LEVEL", Runs.of(0, 1, 2, 3, 5, 6), "make 0 # 0 = 0", "knob 0 40 = 8",
            "play 0 40 = 40", "play 0 -40 = -40", "tell 0 3 = 2", "tell 0 4 = 0", "tell 0 5 = 0", "tell 0 6 = 0",
            "tell 0 8 = 0", "tell 0 9 = 0");
        runs.run("RIPPLE has USES and BENDS", "make 0 4 0 = 0", "play 0 40 = 16", "play 0 -40 = -16", "tell 0 3 = 2",
            "tell 0 4 = 2", "tell 0 5 = 0", "tell 0 6 = 0", "tell 0 8 = 0", "tell 0 9 = 0");
        runs.run("ECHO has USES and HELD", "make 0 7 0 = 0", "play 0 40 = 40", "play 0 -40 = -20", "tell 0 3 = 2",
            "tell 0 4 = 0", "tell 0 5 = -40", "tell 0 6 = 0", "tell 0 8 = 0", "tell 0 9 = 0");
        runs.run("HALL has USES, HELD and TOP", "make 0 8 0 = 0", "play 0 40 = 40", "play 0 -40 = -18", "tell 0 3 = 2",
            "tell 0 4 = 0", "tell 0 5 = -43", "tell 0 6 = 0", "tell 0 8 = 40", "tell 0 9 = 0");
        runs.each("COUNTER and CLOCK have USES and COUNT", Runs.of(9, 10), "make 0 # 0 = 0", "play 0 40 = 41",
            "play 0 -40 = -38", "tell 0 3 = 2", "tell 0 4 = 0", "tell 0 5 = 0", "tell 0 6 = 2", "tell 0 8 = 0",
            "tell 0 9 = 0");
        runs.run("CLOCK's TICK is no use", "make 0 10 0 = 0", "ticks 0 8 = 120", "tell 0 3 = 0", "tell 0 6 = 36",
            "tell 0 9 = 0");
    }

    private static void turns(Runs runs) {
        runs.run("BENDS grows if y is not x", "make 0 4 0 = 0", "play 0 7 = 7", "tell 0 4 = 0", "play 0 8 = 8",
            "tell 0 4 = 0", "play 0 9 = 8", "tell 0 4 = 1", "play 0 -7 = -7", "tell 0 4 = 1", "play 0 -8 = -8",
            "tell 0 4 = 1", "play 0 -9 = -9", "tell 0 4 = 2");
        runs.run("BENDS of a FOLD never grows", "make 0 3 0 = 0", "play 0 9 = 8", "play 0 -9 = -8", "tell 0 4 = 0",
            "take 0 3 0 = 0");
        runs.run("RIPPLE with KNOB 0", "make 0 4 0 = 0", "knob 0 0 = 8", "play 0 0 = 0", "tell 0 4 = 0", "play 0 3 = 0",
            "play 0 4 = 1", "play 0 -1 = -1", "play 0 -4 = -1", "play 0 -5 = -2", "tell 0 4 = 5");
        runs.run("HELD being what it was", "make 0 7 0 = 0", "knob 0 16 = 8", "play 0 3 = 3", "play 0 5 = 8",
            "play 0 0 = 5", "play 0 0 = 0");
        runs.run("HELD becomes y, not what ECHO's TURN is", "make 0 7 0 = 0", "knob 0 16 = 8", "play 0 3 = 3",
            "play 0 5 = 8", "tell 0 5 = 5");
        runs.run("TOP becomes z if z is above it", "make 0 8 0 = 0", "knob 0 0 = 8", "play 0 -1 = -1", "tell 0 8 = 0",
            "play 0 0 = 0", "tell 0 8 = 0", "play 0 1 = 1", "tell 0 8 = 1", "play 0 16 = 16", "tell 0 8 = 16",
            "play 0 15 = 15", "tell 0 8 = 16", "play 0 16 = 16", "tell 0 8 = 16", "play 0 17 = 17", "tell 0 8 = 17",
            "play 0 2147483647 = 2147483647", "tell 0 8 = 2147483647", "play 0 -2147483648 = -2147483648",
            "tell 0 8 = 2147483647");
        runs.run("TOP is of z, not of y", "make 0 8 0 = 0", "knob 0 16 = 8", "play 0 8 = 8", "tell 0 5 = 9",
            "play 0 1 = 10", "tell 0 8 = 10", "tell 0 5 = 2");
        runs.run("it is y + COUNT, COUNT having grown", "make 0 9 0 = 0", "play 0 0 = 1", "play 0 -2 = 0",
            "play 0 -3 = 0");
    }

    private static void loads(Runs runs) {
        int[][] bits = {{-9, 5}, {-8, 7}, {-7, 0}, {-1, 6}, {0, 0}, {1, 1}, {7, 7}, {8, 1}, {14, 7}, {15, 0}, {16, 2}};
        for (int[] played : bits) {
            runs.run("the lowest three bits of HELD, behind " + played[0], "make 0 8 0 = 0",
                "play 0 " + played[0] + " = " + played[0], "tell 0 7 = " + (6 + played[1]));
        }
        runs.each("LOAD of STORE is PLAIN's", Runs.of(5), "make 0 # 0 = 0", "tell 0 7 = 2", "knob 0 -9 = 8",
            "tell 0 7 = 2");
        runs.each("LOAD of LAG and ECHO: and 4", Runs.of(6, 7), "make 0 # 0 = 0", "play 0 5 = 5", "tell 0 7 = 6");
        runs.run("LOAD of SHAPER: its KNOB doesn't count", "make 0 1 0 = 0", "knob 0 100 = 8", "tell 0 7 = 5",
            "take 0 1 0 = 5");
        runs.each("LOAD of CLIP and FOLD: and |KNOB|", Runs.of(2, 3), "make 0 # 0 = 0", "knob 0 0 = 8", "tell 0 7 = 5",
            "knob 0 -1 = 0", "tell 0 7 = 6", "knob 0 -1000 = -1", "tell 0 7 = 1005", "take 0 1 0 = 1005");
        runs.run("LOAD of RIPPLE: and BENDS", "make 0 4 0 = 0", "tell 0 7 = 13", "play 0 9 = 8", "tell 0 7 = 14",
            "play 0 9 = 8", "tell 0 7 = 15", "rest 0 = 1", "tell 0 7 = 13");
        runs.each("LOAD of COUNTER and CLOCK: and COUNT", Runs.of(9, 10), "make 0 # 0 = 0", "tell 0 7 = 2",
            "play 0 0 = 1", "tell 0 7 = 3", "play 0 0 = 2", "tell 0 7 = 4");
        runs.run("LOAD of CLOCK at REST", "make 0 10 0 = 0", "rest 0 = 1", "tell 0 7 = 102", "ticks 0 1 = 101",
            "tell 0 7 = 103");
        runs.each("LOAD of what is no PART", Runs.of(11, 13, 16, 17, 23), "make 0 # 3 = 0", "tell 0 7 = 0");
    }

    private static void rests(Runs runs) {
        runs.run("REST of ECHO and HALL halves KNOB each time", "make 0 8 0 = 0", "rest 0 = 1", "tell 0 2 = 4",
            "rest 0 = 1", "rest 0 = 1", "tell 0 2 = 1", "rest 0 = 1", "tell 0 2 = 0", "rest 0 = 1", "tell 0 2 = 0");
        runs.each("REST of ECHO and HALL: STORE's, HELD becomes 0", Runs.of(7, 8), "make 0 # 0 = 0", "play 0 7 = 7",
            "tell 0 5 = 7", "rest 0 = 1", "tell 0 5 = 0", "tell 0 3 = 0", "play 0 1 = 1");
        runs.each("REST of STORE and LAG, whose HELD is 0", Runs.of(5, 6), "make 0 # 0 = 0", "play 0 7 = 7",
            "rest 0 = 1", "tell 0 5 = 0", "tell 0 3 = 0");
        runs.each("REST leaves the KNOB of all others", Runs.of(0, 1, 2, 3, 4, 5, 6, 9, 10), "make 0 # 0 = 0",
            "rest 0 = 1", "tell 0 2 = 8");
        runs.run("REST of CLOCK that ran beyond 100", "make 0 10 0 = 0", "rest 0 = 1", "ticks 0 8 = 920",
            "tell 0 6 = 136", "rest 0 = 1", "tell 0 6 = 100", "rest 0 = 1", "tell 0 6 = 100");
        runs.run("REST of a COUNTER is at 0, and it counts from 1", "make 0 9 0 = 0", "play 0 0 = 1", "play 0 0 = 2",
            "rest 0 = 1", "tell 0 6 = 0", "play 0 0 = 1");
    }

    private static void ticks(Runs runs) {
        int[] ofClock = {0, 1, 4, 10, 20, 35, 56, 84, 120};
        int[] ofMeter = {0, 0, 1, 6, 24, 82, 261, 804, 2440};
        int[] levels = {0, 0, 1, 5, 18, 58, 179, 543, 1636};
        for (int n = 0; n <= 8; n++) {
            runs.run("TICKS of a CLOCK by " + n, "make 0 10 0 = 0", "ticks 0 " + n + " = " + ofClock[n],
                "tell 0 6 = " + n * (n + 1) / 2, "tell 0 3 = 0", "acts = 2");
            runs.run("TICKS of a METER by " + n, "make 0 11 0 = 0", "ticks 0 " + n + " = " + ofMeter[n],
                "tell 0 9 = " + levels[n], "acts = 2");
        }
        runs.run("TICKS by 0 leaves COUNT, and is an ACT", "make 0 10 0 = 0", "rest 0 = 1", "ticks 0 0 = 0",
            "tell 0 6 = 100", "acts = 3");
    }

    private static void playsOfLittle(Runs runs) {
        runs.each("PLAY of a row of no places", Runs.of(17, 18, 19, 20, 22, 23, 24), "make 0 # 0 = 0", "play 0 7 = 7",
            "play 0 -2147483648 = -2147483648", "rest 0 = 0", "acts = 4");
        runs.each("PLAY of 12 times NOTHING", Runs.of(17, 18, 19, 20, 22, 23, 24), "make 0 # 12 = 0", "play 0 7 = 7",
            "rest 0 = 0");
        runs.run("PLAY passes NOTHING over, at the first place", "make 0 17 12 = 0", "make 1 9 0 = 1", "plug 0 0 1 = 0",
            "play 0 5 = 6", "tell 1 3 = 1");
        runs.run("PLAY passes NOTHING over, at the last place", "make 0 17 12 = 0", "make 1 9 0 = 1", "plug 0 11 1 = 0",
            "play 0 5 = 6", "tell 1 3 = 1");
        runs.run("PLAY goes from place 0 on", "make 0 17 2 = 0", "make 1 9 0 = 1", "make 2 2 0 = 2", "plug 0 0 1 = 0",
            "plug 0 1 2 = 0", "play 0 8 = 8", "plug 0 0 2 = 1", "plug 0 1 1 = 1", "play 0 8 = 10");
        runs.run("PLAY of a board whose rows have no places or no parts", "make 0 23 3 = 0", "make 1 17 0 = 1",
            "make 2 17 12 = 2", "plug 0 0 1 = 0", "plug 0 1 2 = 0", "play 0 3 = 3", "rest 0 = 0");
        runs.run("PLAY of a board goes row by row", "make 0 23 3 = 0", "make 1 17 1 = 1", "make 2 17 1 = 2",
            "make 3 9 0 = 3", "make 4 2 0 = 4", "plug 1 0 3 = 0", "plug 2 0 4 = 0", "plug 0 0 1 = 0", "plug 0 2 2 = 0",
            "play 0 8 = 8", "plug 0 0 2 = 1", "plug 0 2 1 = 1", "play 0 8 = 10");
        runs.each("only these are PLAYED", Runs.of(11, 13, 14, 15, 16, 21), "make 0 # 1 = 0", "make 1 13 1 = 1",
            "play 0 1 = 0 ! 3", "rest 0 = 0 ! 3", "run 0 1 = 0 ! 3");
    }

    private static void playsOfMost(Runs runs) {
        List<String> rows = new ArrayList<>(List.of("make 0 23 12 = 0", "make 1 17 12 = 1", "make 2 9 0 = 2"));
        for (int i = 0; i < 12; i++) {
            rows.add("plug 1 " + i + " 2 = 0");
        }
        for (int i = 0; i < 12; i++) {
            rows.add("plug 0 " + i + " 1 = 0");
        }
        runs.run("PLAY of a full row, a full board, and a run of them over 12 places", Runs.with(rows, "play 1 0 = 78",
            "tell 2 3 = 12", "rest 1 = 12", "play 0 0 = 10440", "tell 2 3 = 144", "rest 0 = 144", "make 3 13 12 = 3",
            "run 0 3 = 12", "tell 2 3 = 1728", "read 3 0 = 10440", "read 3 1 = 31176", "read 3 11 = 238536",
            "take 0 23 11 = 12", "at 0 11 11 = 2"));
    }

    private static void acts(Runs runs) {
        String[] done = {"make 0 0 0 = 6", "lay 0 1 = 1", "lay 9 9 = 0", "plug 1 0 0 = 0", "plug 1 0 9 = 0",
            "pull 1 0 5 = 0", "copy 2 0 2 0 0 = 0", "copy 3 0 4 0 1 = 0 ! 5", "write 2 0 0 = 1", "knob 0 8 = 8",
            "play 0 0 = 0", "run 0 2 = 2", "ticks 5 0 = 0", "rest 0 = 1", "rest 1 = 0", "carry 1 = 0"};
        String[] made = {"make 0 0 0 = 0", "make 1 17 2 = 1", "make 2 13 2 = 2", "make 3 17 1 = 3", "make 4 19 1 = 4",
            "make 5 11 0 = 5", "plug 3 0 0 = 0"};
        for (String act : done) {
            runs.run("done, so it is an ACT: " + act, Runs.with(made, act, "acts = 8", "undo = 7", "acts = 7",
                "undo = 6"));
        }
        String[] refused = {"make 0 12 0 = 0 ! 1", "lay 0 16 = 0 ! 1", "plug 4 0 0 = 0 ! 5", "pull 0 0 0 = 0 ! 3",
            "copy 2 0 2 0 3 = 0 ! 4", "write 2 2 0 = 0 ! 4", "knob 5 8 = 0 ! 3", "play 5 0 = 0 ! 3", "run 2 2 = 0 ! 3",
            "ticks 0 0 = 0 ! 3", "rest 9 = 0 ! 2", "carry 0 = 0 ! 1", "carry 5 = 0 ! 1"};
        String[] others = {"begin = 1", "acts = 7", "ask 0 0 = 1", "take 0 0 0 = 0", "size 1 = 2", "read 2 0 = 0",
            "tell 0 0 = 0", "at 0 0 0 = 0 ! 3", "end = 0 ! 7", "when 0 0 = 0 ! 7"};
        for (String[] calls : new String[][] {refused, others}) {
            for (String call : calls) {
                runs.run("no ACT: " + call, Runs.with(made, call, "acts = 7"));
            }
        }
        runs.run("undo is no ACT itself", Runs.with(made, "undo = 6", "acts = 6", "undo = 5", "undo = 4", "acts = 4"));
        runs.run("a carry that ended early is no ACT", Runs.with(made, "begin = 1", "play 0 0 = 1", "play 9 0 = 2",
            "end = 2", "carry 1 = 2 ! 2", "acts = 7"));
    }

    private static void takenBack(Runs runs) {
        runs.run("the latest ACT that was not yet taken back", "make 0 9 0 = 0", "knob 0 1 = 8", "knob 0 2 = 1",
            "undo = 2", "tell 0 2 = 1", "knob 0 3 = 1", "undo = 2", "tell 0 2 = 1", "undo = 1", "tell 0 2 = 8",
            "undo = 0", "tell 0 0 = 0 ! 2", "undo = 0 ! 7");
        runs.run("parts are as before it", "make 0 4 0 = 0", "play 0 9 = 8", "rest 0 = 1", "undo = 2", "tell 0 3 = 1",
            "tell 0 4 = 1", "make 0 8 0 = 1", "play 0 9 = 9", "rest 0 = 1", "undo = 4", "tell 0 2 = 8", "tell 0 3 = 1",
            "tell 0 5 = 10", "tell 0 8 = 9", "undo = 3", "tell 0 8 = 0", "tell 0 5 = 0");
        runs.run("meters are as before it", "make 0 11 0 = 0", "ticks 0 3 = 6", "ticks 0 8 = 51640", "undo = 2",
            "tell 0 9 = 5", "undo = 1", "tell 0 9 = 0");
        runs.run("places are as before it", "make 0 15 2 = 0", "write 0 1 9000000000 = 1", "write 0 1 -1 = 1",
            "undo = 2", "read 0 1 = 9000000000", "make 1 17 1 = 1", "make 2 0 0 = 2", "plug 1 0 2 = 0",
            "plug 1 0 9 = 1", "undo = 5", "take 1 17 0 = 2", "undo = 4", "take 1 17 0 = 0 ! 2");
        runs.run("shelves are as before it", "make 0 0 0 = 0", "make 1 1 0 = 1", "lay 0 1 = 1", "undo = 2",
            "tell 1 1 = 1", "lay 9 1 = 0", "undo = 2", "tell 1 1 = 1", "make 1 2 0 = 2", "undo = 2", "tell 1 1 = 1");
        runs.run("a copy with WHY 5 is taken back", "make 0 17 2 = 0", "make 1 20 2 = 1", "make 2 7 0 = 2",
            "make 3 6 0 = 3", "plug 0 0 2 = 0", "plug 0 1 3 = 0", "copy 0 0 1 0 2 = 1 ! 5", "take 1 20 0 = 2",
            "undo = 6", "take 1 20 0 = 0 ! 2", "undo = 5", "take 0 17 1 = 0 ! 2");
        runs.run("WHY is not taken back: it is undo's own", "make 0 0 0 = 0", "make 1 99 0 = 0 ! 1", "undo = 0",
            "why = 0");
        runs.run("the SHEET is not taken back", "make 0 9 0 = 0", "begin = 1", "play 0 0 = 1", "end = 1", "carry 1 = 1",
            "undo = 1", "carry 1 = 1", "carry 4 = 14");
    }

    private static List<String> linesRecorded(int n) {
        List<String> rows = new ArrayList<>(List.of("begin = 1"));
        for (int line = 1; line <= n; line++) {
            rows.add("make 0 0 0 = " + line);
        }
        return rows;
    }

    private static void sheet(Runs runs) {
        runs.run("the SHEET has no lines at first", "carry 4 = 0", "begin = 1", "end = 0");
        runs.run("a SHEET of 15 lines", Runs.with(linesRecorded(15), "end = 15", "carry 1 = 105", "carry 1 = 330"));
        runs.run("a SHEET of 16 lines", Runs.with(linesRecorded(16), "end = 16", "carry 3 = 1128", "carry 1 = 13 ! 6"));
        runs.run("a 17th line", Runs.with(linesRecorded(15), "when 0 0 = 16", "when 0 0 = 0 ! 6", "make 0 0 0 = 0 ! 6",
            "end = 16", "carry 1 = 106"));
        runs.run("a SHEET that was full is begun anew", Runs.with(linesRecorded(16), "lay 0 0 = 0 ! 6", "end = 16",
            "begin = 1", "lay 0 0 = 1", "end = 1", "carry 1 = 0", "tell 0 0 = 0 ! 2"));
    }

    private static void recording(Runs runs) {
        String[] calls = {"make 0 0 0", "lay 0 1", "plug 0 0 1", "pull 0 0 1", "copy 0 0 0 0 1", "write 0 0 1",
            "knob 0 1", "play 0 1", "run 0 1", "ticks 0 1", "rest 0", "when 0 0"};
        for (String call : calls) {
            runs.run("while RECORDING it is not done: " + call, "make 1 13 1 = 0", "begin = 1", call + " = 1",
                call + " = 2", "tell 0 0 = 0 ! 2", "tell 1 1 = 0", "acts = 1", "end = 2");
            runs.run("while RECORDING no reason but 6: " + call, Runs.with(linesRecorded(15), call + " = 16",
                call + " = 0 ! 6", "acts = 0", "end = 16"));
        }
        String[] wrong = {"make 16 12 13", "make -2147483648 25 -1", "lay -1 16", "plug 16 -1 -1", "pull -1 99 16",
            "copy 16 -1 -1 -1 -1", "write -1 -1 9223372036854775807", "knob 16 1001", "play -1 0", "run 16 16",
            "ticks 0 9", "ticks -1 -1", "rest 16", "when 16 25"};
        for (String call : wrong) {
            runs.run("while RECORDING no reason is looked at: " + call, "begin = 1", call + " = 1", "end = 1",
                "carry 1 = 1 ! 1");
        }
        runs.run("all other calls are as ever", "make 0 16 1 = 0", "make 1 13 1 = 1", "plug 0 0 1 = 0",
            "write 1 0 7 = 1", "begin = 1", "begin = 0 ! 7", "carry 0 = 0 ! 1", "carry 1 = 0 ! 7", "undo = 0 ! 7",
            "acts = 4", "ask 0 16 = 1", "ask 16 0 = 0 ! 1", "take 0 16 0 = 1", "take 0 17 0 = 0 ! 3", "size 0 = 1",
            "size 5 = 0 ! 2", "read 1 0 = 7", "read 1 1 = 0 ! 4", "at 0 0 0 = 7", "at 0 1 0 = 0 ! 4", "tell 0 0 = 16",
            "tell 0 10 = 0 ! 1", "end = 0", "undo = 3");
    }

    private static void why(Runs runs) {
        runs.run("WHY is of the latest call but why()", "make 0 12 0 = 0 ! 1", "why = 1 ! 1", "why = 1 ! 1", "acts = 0",
            "why = 0", "undo = 0 ! 7", "why = 7 ! 7", "begin = 1", "why = 0", "begin = 0 ! 7", "why = 7 ! 7",
            "play 16 0 = 1", "why = 0", "end = 1", "why = 0", "carry 1 = 1 ! 1", "why = 1 ! 1", "tell 0 0 = 0 ! 2",
            "why = 2 ! 2");
        runs.run("WHY 5 of a copy that was done as far as it fits", "make 0 17 1 = 0", "make 1 18 1 = 1",
            "make 2 0 0 = 2", "plug 0 0 2 = 0", "copy 0 0 1 0 1 = 0 ! 5", "why = 5 ! 5", "copy 0 0 1 0 0 = 0",
            "why = 0");
    }
}
