import java.util.ArrayList;
import java.util.List;

/** The boundary cases of promise 1 and of promises 19 to 25. */
public final class QuestionsEdgesTest {
    private static final long[] FAR = {Integer.MIN_VALUE, -1, 0, 1, Integer.MAX_VALUE};

    public static void main(String[] args) {
        Runs runs = new Runs("QuestionsEdgesTest");
        newObject(runs);
        ask(runs);
        takeShelfAndKind(runs);
        takeParts(runs);
        takeFromPlaces(runs);
        takeOrder(runs);
        size(runs);
        read(runs);
        atTables(runs);
        atBoards(runs);
        atOrder(runs);
        tell(runs);
        why(runs);
        runs.end();
    }

    private static void newObject(Runs runs) {
        runs.equal("promise 1: WHY 0", new PatchHall().why(), 0);
        runs.each("promise 1: empty shelves", Runs.of(0, 1, 14, 15), "tell # 0 = 0 ! 2", "lay # 3 = 0", "ask # 0 = 0");
        runs.run("promise 1: no things", "make 0 0 0 = 0");
        runs.run("promise 1: no ACT", "acts = 0", "undo = 0 ! 7");
        runs.run("promise 1: an empty sheet", "carry 1 = 0", "acts = 1");
        runs.run("promise 1: not RECORDING", "end = 0 ! 7");
        runs.run("promise 1: not RECORDING, so an act is done", "lay 0 0 = 0", "acts = 1");
    }

    private static void ask(Runs runs) {
        runs.each("promise 19: s", Runs.END_SHELF, "make # 0 0 = 0", "ask # 0 = 1", "ask # 24 = 0");
        runs.each("promise 19: s not 0 .. 15", Runs.NO_SHELF, "make 0 0 0 = 0", "ask # 0 = 0 ! 1");
        runs.each("promise 19: k", Runs.of(0, 1, 11, 12, 13, 23, 24), "ask 0 # = 0", "make 1 24 0 = 0", "ask 0 # = 0");
        runs.each("promise 19: k not 0 .. 24", Runs.NO_KIND, "ask 0 # = 0 ! 1", "make 0 0 0 = 0", "ask 0 # = 0 ! 1");
        runs.each("promise 19: a kind is UNDER itself", Runs.of(0, 1, 2, 3, 4, 5, 6, 7, 8, 9, 10, 11, 13, 14, 15, 16,
            17, 18, 19, 20, 21, 22, 23, 24), "make 0 # 0 = 0", "ask 0 # = 1");
    }

    private static void takeShelfAndKind(Runs runs) {
        runs.each("promise 20: s", Runs.END_SHELF, "make # 10 0 = 0", "take # 12 0 = 10");
        runs.each("promise 20: s not 0 .. 15", Runs.NO_SHELF, "make 0 10 0 = 0", "take # 12 0 = 0 ! 1");
        runs.each("promise 20: k not 0 .. 24", Runs.NO_KIND, "make 0 10 0 = 0", "take 0 # 0 = 0 ! 1",
            "take 5 # 0 = 0 ! 1");
        runs.each("promise 20: s holds NOTHING", Runs.of(0, 11, 12, 13, 16, 17, 24), "take 0 # 0 = 0 ! 2",
            "take 0 # -1 = 0 ! 2");
        for (int kind = 0; kind < 25; kind++) {
            if (kind != 12) {
                runs.each("promise 20: not UNDER: " + kind + " taken as", Runs.of(kind < 13 ? 13 : 0,
                    kind == 24 ? 17 : 24, kind == 4 ? 5 : 4, kind == 10 || kind == 11 ? 8 : 12),
                    "make 0 " + kind + " 0 = 0", "take 0 # 0 = 0 ! 3", "take 0 # -1 = 0 ! 3");
            }
        }
    }

    private static void takeParts(Runs runs) {
        for (long i : FAR) {
            runs.run("promise 20: i counts for rows alone: " + i, "make 0 4 0 = 0", "knob 0 -9 = 8", "play 0 10 = 9",
                "play 0 9 = 9", "take 0 0 " + i + " = 2", "take 0 1 " + i + " = 15", "take 0 2 " + i + " = 9",
                "take 0 3 " + i + " = 1", "take 0 4 " + i + " = 1", "make 1 8 0 = 1", "play 1 16 = 16",
                "take 1 5 " + i + " = 18", "take 1 6 " + i + " = 18", "take 1 7 " + i + " = 18",
                "take 1 8 " + i + " = 18", "make 2 10 0 = 2", "ticks 2 2 = 4", "take 2 9 " + i + " = 3",
                "take 2 10 " + i + " = 3", "take 2 12 " + i + " = 10", "make 3 11 0 = 3", "ticks 3 3 = 6",
                "take 3 11 " + i + " = 5", "take 3 12 " + i + " = 11");
        }
        runs.each("promise 20: SHAPER its LOAD, by the thing's own kind", Runs.of(1), "make 0 # 0 = 0",
            "take 0 1 0 = 5", "make 0 2 0 = 1", "take 0 1 0 = 13", "make 0 3 0 = 2", "take 0 1 0 = 13",
            "make 0 4 0 = 3", "play 0 9 = 8", "take 0 1 0 = 14");
    }

    private static void takeFromPlaces(Runs runs) {
        for (int kind = 13; kind < 16; kind++) {
            runs.each("promise 20: the row has no place i: " + kind, Runs.NO_PLACE, "make 0 " + kind + " 12 = 0",
                "take 0 " + kind + " # = 0 ! 4");
            runs.each("promise 20: what place i holds: " + kind, Runs.of(0, 11), "make 0 " + kind + " 12 = 0",
                "write 0 # -1 = 1", "take 0 " + kind + " # = -1", "take 0 " + kind + " 5 = 0");
            runs.run("promise 20: a row of no places: " + kind, "make 0 " + kind + " 0 = 0",
                "take 0 " + kind + " 0 = 0 ! 4");
        }
        int[][] rowsAndParts = {{17, 0}, {18, 1}, {19, 2}, {20, 7}, {21, 11}, {22, 10}};
        for (int[] pair : rowsAndParts) {
            String row = "make 0 " + pair[0] + " 12 = 0";
            runs.each("promise 20: the row has no place i: " + pair[0], Runs.NO_PLACE, row,
                "take 0 " + pair[0] + " # = 0 ! 4");
            runs.each("promise 20: the NUMBER of the thing at place i, or NOTHING: " + pair[0], Runs.of(0, 11), row,
                "make 1 " + pair[1] + " 0 = 1", "take 0 " + pair[0] + " # = 0 ! 2", "plug 0 # 1 = 0",
                "take 0 " + pair[0] + " # = 1", "take 0 " + pair[0] + " 5 = 0 ! 2");
            runs.run("promise 20: the thing of NUMBER 0: " + pair[0], "make 1 " + pair[1] + " 0 = 0",
                "make 0 " + pair[0] + " 1 = 1", "plug 0 0 1 = 0", "take 0 " + pair[0] + " 0 = 0");
        }
        int[][] rowsOfRows = {{16, 13}, {23, 17}, {24, 19}};
        for (int[] pair : rowsOfRows) {
            String row = "make 0 " + pair[0] + " 12 = 0";
            runs.each("promise 20: the row has no place i: " + pair[0], Runs.NO_PLACE, row,
                "take 0 " + pair[0] + " # = 0 ! 4");
            for (int n : new int[] {0, 1, 12}) {
                runs.each("promise 20: how many places the row at place i has: " + pair[0] + ", " + n, Runs.of(0, 11),
                    row, "make 1 " + pair[1] + " " + n + " = 1", "take 0 " + pair[0] + " # = 0 ! 2", "plug 0 # 1 = 0",
                    "take 0 " + pair[0] + " # = " + n, "take 0 " + pair[0] + " 5 = 0 ! 2");
            }
        }
    }

    private static void takeOrder(Runs runs) {
        runs.run("promise 20: of several reasons the one told first", "make 0 13 1 = 0", "make 1 17 1 = 1",
            "make 2 0 0 = 2", "take 16 13 9 = 0 ! 1", "take 5 25 9 = 0 ! 1", "take 0 25 9 = 0 ! 1",
            "take 0 14 9 = 0 ! 3", "take 1 13 9 = 0 ! 3", "take 2 17 0 = 0 ! 3", "take 5 13 9 = 0 ! 2",
            "take 5 17 0 = 0 ! 2", "take 0 13 1 = 0 ! 4", "take 1 17 1 = 0 ! 4", "take 1 17 0 = 0 ! 2",
            "take 0 13 0 = 0");
    }

    private static void size(Runs runs) {
        runs.each("promise 21: s", Runs.END_SHELF, "make # 13 12 = 0", "size # = 12");
        runs.each("promise 21: s not 0 .. 15", Runs.NO_SHELF, "make 0 13 12 = 0", "size # = 0 ! 1");
        runs.run("promise 21: s holds NOTHING", "size 0 = 0 ! 2");
        runs.each("promise 21: on s is no ROW", Runs.of(0, 1, 8, 10, 11), "make 0 # 12 = 0", "size 0 = 0 ! 3");
        for (int kind = 13; kind < 25; kind++) {
            runs.each("promise 21: how many places " + kind + " has", Runs.of(0, 1, 11, 12),
                "make 0 " + kind + " # = 0", "size 0 = #");
        }
    }

    private static void read(Runs runs) {
        runs.each("promise 22: s", Runs.END_SHELF, "make # 15 1 = 0", "write # 0 -7 = 1", "read # 0 = -7");
        runs.each("promise 22: s not 0 .. 15", Runs.NO_SHELF, "make 0 15 1 = 0", "read # 0 = 0 ! 1");
        runs.run("promise 22: s holds NOTHING", "read 0 0 = 0 ! 2");
        runs.each("promise 22: on s is no NUMBER ROW", Runs.of(0, 11, 16, 17, 21, 24), "make 0 # 12 = 0",
            "read 0 0 = 0 ! 3");
        for (int kind = 13; kind < 16; kind++) {
            runs.each("promise 22: it has no place i: " + kind, Runs.NO_PLACE, "make 0 " + kind + " 12 = 0",
                "read 0 # = 0 ! 4");
            runs.each("promise 22: what place i holds: " + kind, Runs.of(0, 11), "make 0 " + kind + " 12 = 0",
                "read 0 # = 0", "write 0 # -1 = 1", "read 0 # = -1", "write 0 # 100 = 1", "read 0 # = 100",
                "read 0 5 = 0");
            runs.run("promise 22: a row of no places: " + kind, "make 0 " + kind + " 0 = 0", "read 0 0 = 0 ! 4");
        }
        runs.run("promise 22: of several reasons the one told first", "make 0 15 1 = 0", "make 1 17 1 = 1",
            "read 16 9 = 0 ! 1", "read 5 9 = 0 ! 2", "read 1 9 = 0 ! 3", "read 0 9 = 0 ! 4");
    }

    private static void atTables(Runs runs) {
        String[] made = {"make 1 13 12 = 0", "make 0 16 12 = 1", "plug 0 0 1 = 0", "plug 0 11 1 = 0"};
        runs.each("promise 23: i of a TABLE", Runs.of(0, 11), Runs.with(made, "write 1 0 -1 = 1", "write 1 11 7 = 1",
            "at 0 # 0 = -1", "at 0 # 11 = 7", "at 0 # 5 = 0"));
        runs.each("promise 23: it has no place i", Runs.NO_PLACE, Runs.with(made, "at 0 # 0 = 0 ! 4"));
        runs.each("promise 23: at i is NOTHING", Runs.of(1, 10), Runs.with(made, "at 0 # 0 = 0 ! 2"));
        runs.each("promise 23: the row there has no place j", Runs.NO_PLACE, Runs.with(made, "at 0 0 # = 0 ! 4",
            "at 0 11 # = 0 ! 4"));
        runs.each("promise 23: a number, as far as they go", Runs.of(Integer.MIN_VALUE, -1, 0, 1, Integer.MAX_VALUE),
            Runs.with(made, "write 1 4 # = 1", "at 0 0 4 = #"));
        runs.run("promise 23: a row of no places there, and a TABLE of no places", "make 0 16 1 = 0", "make 1 13 0 = 1",
            "plug 0 0 1 = 0", "at 0 0 0 = 0 ! 4", "at 0 0 -1 = 0 ! 4", "make 2 16 0 = 2", "at 2 0 0 = 0 ! 4");
    }

    private static void atBoards(Runs runs) {
        for (int board : new int[] {23, 24}) {
            String[] made = {"make 1 2 0 = 0", "make 2 19 12 = 1", "make 0 " + board + " 12 = 2", "make 3 4 0 = 3",
                "plug 2 0 1 = 0", "plug 2 11 3 = 0", "plug 0 0 2 = 0", "plug 0 11 2 = 0"};
            runs.each("promise 23: i of a BOARD", Runs.of(0, 11), Runs.with(made, "at 0 # 0 = 0", "at 0 # 11 = 3",
                "at 0 # 5 = 0 ! 2", "at 0 # 1 = 0 ! 2"));
            runs.each("promise 23: it has no place i", Runs.NO_PLACE, Runs.with(made, "at 0 # 0 = 0 ! 4"));
            runs.each("promise 23: at i is NOTHING", Runs.of(1, 10), Runs.with(made, "at 0 # 0 = 0 ! 2",
                "at 0 # -1 = 0 ! 2"));
            runs.each("promise 23: the row there has no place j", Runs.NO_PLACE, Runs.with(made, "at 0 0 # = 0 ! 4"));
            runs.run("promise 23: a BOARD of no places", "make 0 " + board + " 0 = 0", "at 0 0 0 = 0 ! 4");
        }
    }

    private static void atOrder(Runs runs) {
        runs.each("promise 23: s", Runs.END_SHELF, "make # 16 1 = 0", "make 7 13 1 = 1", "plug # 0 7 = 0",
            "write 7 0 9 = 1", "at # 0 0 = 9");
        runs.each("promise 23: s not 0 .. 15", Runs.NO_SHELF, "make 0 16 1 = 0", "at # 0 0 = 0 ! 1");
        runs.run("promise 23: s holds NOTHING", "at 0 0 0 = 0 ! 2");
        runs.each("promise 23: on s is neither a TABLE nor a BOARD", Runs.of(0, 11, 13, 14, 15, 17, 18, 19, 20, 21, 22),
            "make 0 # 12 = 0", "at 0 0 0 = 0 ! 3");
        runs.run("promise 23: of several reasons the one told first", "make 0 23 2 = 0", "make 1 17 1 = 1",
            "plug 0 1 1 = 0", "at 16 9 9 = 0 ! 1", "at 5 9 9 = 0 ! 2", "at 1 9 9 = 0 ! 3", "at 0 2 9 = 0 ! 4",
            "at 0 0 9 = 0 ! 2", "at 0 1 1 = 0 ! 4", "at 0 1 0 = 0 ! 2");
    }

    private static void tell(Runs runs) {
        runs.each("promise 24: s", Runs.END_SHELF, "make # 9 0 = 0", "tell # 0 = 9");
        runs.each("promise 24: s not 0 .. 15", Runs.NO_SHELF, "make 0 9 0 = 0", "tell # 0 = 0 ! 1");
        runs.each("promise 24: q not 0 .. 9", Runs.of(-1, 10, 11, Integer.MIN_VALUE, Integer.MAX_VALUE),
            "make 0 13 12 = 0", "tell 0 # = 0 ! 1", "tell 5 # = 0 ! 1");
        runs.each("promise 24: s holds NOTHING", Runs.of(0, 1, 2, 3, 4, 5, 6, 7, 8, 9), "tell 0 # = 0 ! 2");
        runs.each("promise 24: 0 for what it hasn't: a row full of numbers", Runs.of(13, 14, 15), "make 1 0 0 = 0",
            "make 0 # 12 = 1", "write 0 0 5 = 1", "write 0 1 6 = 1", "tell 0 0 = #", "tell 0 1 = 1", "tell 0 2 = 0",
            "tell 0 3 = 0", "tell 0 4 = 0", "tell 0 5 = 0", "tell 0 6 = 0", "tell 0 7 = 0", "tell 0 8 = 0",
            "tell 0 9 = 0");
        runs.run("promise 24: q 0 and q 9, the first and the last", "make 1 0 0 = 0", "make 0 11 0 = 1",
            "ticks 0 8 = 2440", "tell 0 0 = 11", "tell 0 9 = 1636", "tell 0 8 = 0", "tell 0 1 = 1");
        runs.run("promise 24: a thing of NUMBER 59", sixtyThings("tell 3 1 = 59", "tell 3 0 = 8", "tell 3 2 = 8",
            "play 3 16 = 16", "tell 3 5 = 18", "tell 3 8 = 16", "tell 2 1 = 58", "tell 2 5 = 0"));
    }

    private static String[] sixtyThings(String... last) {
        List<String> rows = new ArrayList<>();
        for (int n = 0; n < 60; n++) {
            rows.add("make " + (n == 59 ? 3 : 2) + " 8 0 = " + n);
        }
        return Runs.with(rows, last);
    }

    private static void why(Runs runs) {
        runs.run("promise 25: each reason, and 0 behind each", "lay 16 0 = 0 ! 1", "why = 1 ! 1", "acts = 0", "why = 0",
            "rest 0 = 0 ! 2", "why = 2 ! 2", "ask 0 0 = 0", "why = 0", "make 0 16 1 = 0", "play 0 0 = 0 ! 3",
            "why = 3 ! 3", "size 0 = 1", "why = 0", "take 0 16 1 = 0 ! 4", "why = 4 ! 4", "take 0 16 0 = 0 ! 2",
            "why = 2 ! 2", "plug 0 0 0 = 0 ! 5", "why = 5 ! 5", "tell 0 0 = 16", "why = 0", "end = 0 ! 7",
            "why = 7 ! 7", "undo = 0", "why = 0");
        runs.run("promise 25: reason 6 of the sheet", Runs.with(new String[] {"begin = 1"},
            sixteenLines("rest 0 = 0 ! 6", "why = 6 ! 6", "end = 16", "why = 0")));
        runs.run("promise 25: reason 6 of make", sixtyThings("make 0 0 0 = 0 ! 6", "why = 6 ! 6", "acts = 60",
            "why = 0"));
    }

    private static String[] sixteenLines(String... last) {
        List<String> rows = new ArrayList<>();
        for (int n = 1; n <= 16; n++) {
            rows.add("rest 0 = " + n);
        }
        return Runs.with(rows, last);
    }
}
