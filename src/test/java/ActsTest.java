/** Promises 2 to 12: what each act does, its edges, its reasons, and which of several counts. */
public final class ActsTest {
    public static void main(String[] args) {
        Runs runs = new Runs("ActsTest");
        make(runs);
        lay(runs);
        plug(runs);
        pull(runs);
        copyNumbers(runs);
        copyThings(runs);
        copyRefused(runs);
        write(runs);
        knob(runs);
        play(runs);
        run(runs);
        ticks(runs);
        rest(runs);
        runs.end();
    }

    private static void make(Runs runs) {
        runs.run("promise 2: make", "make 0 13 12 = 0", "size 0 = 12", "make 15 17 0 = 1", "size 15 = 0",
            "make 0 4 7 = 2", "tell 0 0 = 4", "tell 0 1 = 2", "size 0 = 0 ! 3", "acts = 3");
        runs.run("promise 2: reason 1", "make -1 0 0 = 0 ! 1", "make 16 0 0 = 0 ! 1", "make 0 -1 0 = 0 ! 1",
            "make 0 12 0 = 0 ! 1", "make 0 25 0 = 0 ! 1", "make 0 13 -1 = 0 ! 1", "make 0 13 13 = 0 ! 1",
            "make 0 0 -1 = 0 ! 1", "make 0 0 13 = 0 ! 1", "make -2147483648 2147483647 2147483647 = 0 ! 1",
            "acts = 0", "tell 0 0 = 0 ! 2", "make 0 11 12 = 0");
        runs.run("promise 2: what was there doesn't lie there any more, but is", "make 0 17 1 = 0", "make 1 0 0 = 1",
            "plug 0 0 1 = 0", "make 1 2 0 = 2", "tell 1 0 = 2", "pull 0 0 3 = 1", "tell 3 1 = 1");
        String[] rows = new String[66];
        for (int n = 0; n < 60; n++) {
            rows[n] = "make " + n % 3 + " 15 " + n % 13 + " = " + n;
        }
        rows[60] = "make 0 0 0 = 0 ! 6";
        rows[61] = "make 0 12 0 = 0 ! 1";
        rows[62] = "tell 0 1 = 57";
        rows[63] = "acts = 60";
        rows[64] = "undo = 59";
        rows[65] = "make 0 0 0 = 59";
        runs.run("promise 2: reason 6", rows);
    }

    private static void lay(Runs runs) {
        runs.run("promise 3: lay", "make 0 0 0 = 0", "lay 0 15 = 1", "knob 15 3 = 8", "tell 0 2 = 3", "tell 15 1 = 0",
            "lay 1 0 = 0", "tell 0 0 = 0 ! 2", "tell 15 0 = 0", "lay 15 15 = 1", "lay 3 4 = 0", "acts = 6");
        runs.run("promise 3: reason 1", "lay -1 0 = 0 ! 1", "lay 0 -1 = 0 ! 1", "lay 16 0 = 0 ! 1", "lay 0 16 = 0 ! 1",
            "acts = 0");
    }

    private static void plug(Runs runs) {
        runs.run("promise 4: plug", "make 0 17 2 = 0", "make 1 4 0 = 1", "make 2 9 0 = 2", "plug 0 1 1 = 0",
            "take 0 17 1 = 1", "plug 0 1 2 = 1", "take 0 17 1 = 2", "plug 0 0 2 = 0", "plug 0 1 9 = 1",
            "take 0 17 1 = 0 ! 2", "plug 0 1 9 = 0", "acts = 8");
        runs.run("promise 4: reasons", "make 0 19 2 = 0", "make 1 0 0 = 1", "make 2 13 2 = 2",
            "plug -1 0 1 = 0 ! 1", "plug 0 0 16 = 0 ! 1", "plug 16 0 1 = 0 ! 1", "plug 9 0 -1 = 0 ! 1",
            "plug 9 9 1 = 0 ! 2", "plug 1 9 1 = 0 ! 3", "plug 2 0 1 = 0 ! 3", "plug 2 0 9 = 0 ! 3",
            "plug 0 2 1 = 0 ! 4", "plug 0 -1 1 = 0 ! 4", "plug 0 2147483647 9 = 0 ! 4", "plug 0 1 1 = 0 ! 5",
            "plug 0 0 0 = 0 ! 5", "acts = 3", "take 0 19 1 = 0 ! 2");
        runs.run("promise 4: what doesn't fit leaves the place as it was", "make 0 19 1 = 0", "make 1 2 0 = 1",
            "make 2 1 0 = 2", "plug 0 0 1 = 0", "plug 0 0 2 = 0 ! 5", "take 0 19 0 = 1");
        runs.run("promise 4: a row of no places", "make 0 17 0 = 0", "plug 0 0 9 = 0 ! 4");
    }

    private static void pull(Runs runs) {
        runs.run("promise 5: pull", "make 0 23 3 = 0", "make 1 17 2 = 1", "plug 0 2 1 = 0", "pull 0 2 15 = 1",
            "tell 15 1 = 1", "take 0 23 2 = 2", "pull 0 1 15 = 0", "tell 15 0 = 0 ! 2", "pull 0 2 0 = 1",
            "tell 0 1 = 1", "acts = 6");
        runs.run("promise 5: reasons", "make 0 19 2 = 0", "make 1 0 0 = 1", "make 2 14 2 = 2", "pull -1 0 1 = 0 ! 1",
            "pull 0 0 16 = 0 ! 1", "pull 9 0 -1 = 0 ! 1", "pull 9 9 1 = 0 ! 2", "pull 1 9 1 = 0 ! 3",
            "pull 2 0 1 = 0 ! 3", "pull 0 2 1 = 0 ! 4", "pull 0 -1 1 = 0 ! 4", "acts = 3", "tell 1 1 = 1");
    }

    private static void copyNumbers(Runs runs) {
        runs.run("promise 6: numbers", "make 0 15 4 = 0", "make 1 15 3 = 1", "write 0 0 9000000000 = 1",
            "write 0 1 -2 = 1", "write 0 2 -1 = 1", "copy 0 1 1 0 3 = 3", "read 1 0 = -2", "read 1 1 = -1",
            "read 1 2 = 0", "copy 0 0 1 2 1 = 1", "read 1 2 = 9000000000", "copy 0 4 1 3 0 = 0", "acts = 8");
        runs.run("promise 6: the same row, up", "make 0 13 4 = 0", "write 0 0 1 = 1", "write 0 1 2 = 1",
            "write 0 2 3 = 1", "lay 0 1 = 1", "copy 0 0 1 1 3 = 3", "read 0 0 = 1", "read 0 1 = 1", "read 0 2 = 2",
            "read 0 3 = 3");
        runs.run("promise 6: the same row, down", "make 0 14 4 = 0", "write 0 1 1 = 1", "write 0 2 2 = 1",
            "write 0 3 3 = 1", "copy 0 1 0 0 3 = 3", "read 0 0 = 1", "read 0 1 = 2", "read 0 2 = 3", "read 0 3 = 3");
    }

    private static void copyThings(Runs runs) {
        runs.run("promise 6: things", "make 0 17 3 = 0", "make 1 18 3 = 1", "make 2 4 0 = 2", "make 3 1 0 = 3",
            "plug 0 0 2 = 0", "plug 0 2 3 = 0", "plug 1 1 3 = 0", "copy 0 0 1 0 3 = 3", "take 1 18 0 = 2",
            "take 1 18 1 = 0 ! 2", "take 1 18 2 = 3", "acts = 8");
        runs.run("promise 6: the same row of things", "make 0 17 3 = 0", "make 1 0 0 = 1", "make 2 1 0 = 2",
            "plug 0 0 1 = 0", "plug 0 1 2 = 0", "copy 0 0 0 1 2 = 2", "take 0 17 0 = 1", "take 0 17 1 = 1",
            "take 0 17 2 = 2");
        runs.run("promise 6: reason 5 copies what is ahead", "make 0 17 4 = 0", "make 1 20 4 = 1", "make 2 8 0 = 2",
            "make 3 6 0 = 3", "plug 0 0 2 = 0", "plug 0 2 3 = 0", "plug 0 3 2 = 0", "plug 1 1 2 = 0",
            "plug 1 2 2 = 0", "copy 0 0 1 0 4 = 2 ! 5", "take 1 20 0 = 2", "take 1 20 1 = 0 ! 2", "take 1 20 2 = 2",
            "take 1 20 3 = 0 ! 2", "acts = 10", "copy 0 2 1 0 2 = 0 ! 5", "take 1 20 0 = 2", "acts = 11",
            "undo = 10", "undo = 9", "take 1 20 0 = 0 ! 2", "take 1 20 1 = 2");
        runs.run("promise 6: from table to row, as long as NOTHING is there", "make 0 16 2 = 0", "make 1 17 2 = 1",
            "make 2 0 0 = 2", "make 3 13 1 = 3", "plug 1 0 2 = 0", "copy 0 0 1 0 2 = 2", "take 1 17 0 = 0 ! 2",
            "plug 0 1 3 = 0", "copy 0 0 1 0 2 = 1 ! 5");
        runs.run("promise 6: rows of boards", "make 0 23 2 = 0", "make 1 24 2 = 1", "make 2 19 5 = 2",
            "make 3 18 6 = 3", "plug 0 0 2 = 0", "plug 0 1 3 = 0", "copy 0 0 1 0 2 = 1 ! 5", "take 1 24 0 = 5",
            "take 1 24 1 = 0 ! 2", "copy 1 0 0 1 1 = 1", "take 0 23 1 = 5");
    }

    private static void copyRefused(Runs runs) {
        runs.run("promise 6: reasons", "make 0 17 3 = 0", "make 1 19 2 = 1", "make 2 0 0 = 2", "make 3 13 3 = 3",
            "make 4 14 3 = 4", "plug 0 0 2 = 0", "copy -1 0 0 0 0 = 0 ! 1", "copy 0 0 16 0 0 = 0 ! 1",
            "copy 9 0 -1 0 0 = 0 ! 1", "copy 9 0 2 0 0 = 0 ! 2", "copy 2 0 9 0 0 = 0 ! 2", "copy 2 -1 0 0 0 = 0 ! 3",
            "copy 0 -1 2 0 0 = 0 ! 3", "copy 3 -1 4 0 0 = 0 ! 3", "copy 4 0 3 0 0 = 0 ! 3", "copy 3 0 0 0 0 = 0 ! 3",
            "copy 0 9 3 0 0 = 0 ! 3", "copy 0 -1 1 0 1 = 0 ! 4", "copy 0 0 1 -1 1 = 0 ! 4",
            "copy 0 0 1 0 -1 = 0 ! 4", "copy 0 0 1 1 2 = 0 ! 4", "copy 0 3 1 0 1 = 0 ! 4", "copy 0 4 1 0 0 = 0 ! 4",
            "copy 0 0 1 3 0 = 0 ! 4", "copy 3 1 3 0 3 = 0 ! 4", "copy 0 2147483647 1 0 1 = 0 ! 4",
            "copy 0 1 1 2147483647 2147483647 = 0 ! 4", "copy 0 0 1 0 3 = 0 ! 4", "acts = 6",
            "copy 0 0 1 0 2 = 0 ! 5", "acts = 7");
    }

    private static void write(Runs runs) {
        runs.run("promise 7: NUMBERS", "make 0 13 2 = 0", "write 0 0 2147483648 = 1", "read 0 0 = -2147483648",
            "write 0 1 -4294967297 = 1", "read 0 1 = -1", "write 0 1 12345 = 1", "read 0 1 = 12345", "acts = 4");
        runs.run("promise 7: BYTES", "make 0 14 2 = 0", "write 0 0 127 = 1", "read 0 0 = 127", "write 0 0 128 = 1",
            "read 0 0 = -128", "write 0 1 -129 = 1", "read 0 1 = 127", "write 0 1 1099511627775 = 1", "read 0 1 = -1",
            "write 0 1 256 = 1", "read 0 1 = 0");
        runs.run("promise 7: LONGS", "make 0 15 2 = 0", "write 0 1 -9223372036854775808 = 1",
            "read 0 1 = -9223372036854775808", "read 0 0 = 0", "write 0 0 9223372036854775807 = 1",
            "read 0 0 = 9223372036854775807");
        runs.run("promise 7: reasons", "make 0 13 2 = 0", "make 1 16 2 = 1", "make 2 0 0 = 2", "write -1 0 1 = 0 ! 1",
            "write 16 9 1 = 0 ! 1", "write 9 9 1 = 0 ! 2", "write 1 9 1 = 0 ! 3", "write 2 0 1 = 0 ! 3",
            "write 0 2 1 = 0 ! 4", "write 0 -1 1 = 0 ! 4", "acts = 3", "read 0 0 = 0", "read 0 1 = 0");
    }

    private static void knob(Runs runs) {
        for (int kind = 0; kind < 11; kind++) {
            runs.run("promise 8: knob of " + kind, "make 0 " + kind + " 0 = 0", "knob 0 -1000 = 8",
                "knob 0 1000 = -1000", "knob 0 0 = 1000", "tell 0 2 = 0", "acts = 4");
        }
        runs.run("promise 8: reasons", "make 0 0 0 = 0", "make 1 11 0 = 1", "make 2 17 1 = 2", "knob -1 0 = 0 ! 1",
            "knob 16 0 = 0 ! 1", "knob 0 1001 = 0 ! 1", "knob 0 -1001 = 0 ! 1", "knob 9 1001 = 0 ! 1",
            "knob 0 -2147483648 = 0 ! 1", "knob 9 1 = 0 ! 2", "knob 1 1 = 0 ! 3", "knob 2 1 = 0 ! 3", "tell 0 2 = 8",
            "acts = 3");
    }

    private static void play(Runs runs) {
        runs.run("promise 9: a row", "make 0 17 4 = 0", "make 1 9 0 = 1", "make 2 2 0 = 2", "plug 0 0 1 = 0",
            "plug 0 2 2 = 0", "plug 0 3 1 = 0", "play 0 6 = 9", "tell 1 6 = 2", "play 0 6 = 12", "tell 2 3 = 2",
            "tell 1 3 = 4", "acts = 8");
        runs.run("promise 9: a row of nothing", "make 0 17 3 = 0", "play 0 -7 = -7", "make 0 20 0 = 1", "play 0 5 = 5",
            "acts = 4");
        runs.run("promise 9: a board", "make 0 23 4 = 0", "make 1 17 2 = 1", "make 2 19 1 = 2", "make 3 9 0 = 3",
            "make 4 2 0 = 4", "plug 1 1 3 = 0", "plug 2 0 4 = 0", "plug 0 0 1 = 0", "plug 0 2 2 = 0", "plug 0 3 1 = 0",
            "play 0 20 = 10", "tell 3 6 = 2", "tell 4 3 = 1");
        for (int kind : new int[] {17, 18, 19, 20, 22, 23, 24}) {
            runs.run("promise 9: " + kind + " is played", "make 0 " + kind + " 2 = 0", "play 0 3 = 3");
        }
        for (int kind : new int[] {11, 13, 14, 15, 16, 21}) {
            runs.run("promise 9: " + kind + " is not played", "make 0 " + kind + " 2 = 0", "play 0 3 = 0 ! 3",
                "acts = 1");
        }
        runs.run("promise 9: reasons", "play -1 0 = 0 ! 1", "play 16 0 = 0 ! 1", "play 0 0 = 0 ! 2", "acts = 0");
    }

    private static void run(Runs runs) {
        runs.run("promise 10: a part", "make 0 9 0 = 0", "make 1 13 3 = 1", "write 1 1 10 = 1", "run 0 1 = 3",
            "read 1 0 = 1", "read 1 1 = 12", "read 1 2 = 3", "acts = 4");
        runs.run("promise 10: a row", "make 0 19 2 = 0", "make 1 2 0 = 1", "make 2 13 2 = 2", "plug 0 1 1 = 0",
            "write 2 0 99 = 1", "write 2 1 -3 = 1", "run 0 2 = 2", "read 2 0 = 8", "read 2 1 = -3", "tell 1 3 = 2");
        runs.run("promise 10: no places", "make 0 0 0 = 0", "make 1 13 0 = 1", "run 0 1 = 0", "tell 0 3 = 0",
            "acts = 3");
        runs.run("promise 10: reasons", "make 0 0 0 = 0", "make 1 13 2 = 1", "make 2 14 2 = 2", "make 3 11 0 = 3",
            "run -1 1 = 0 ! 1", "run 9 16 = 0 ! 1", "run 3 9 = 0 ! 2", "run 9 2 = 0 ! 2", "run 3 1 = 0 ! 3",
            "run 0 2 = 0 ! 3", "run 1 0 = 0 ! 3", "run 0 0 = 0 ! 3", "tell 0 3 = 0", "acts = 4");
    }

    private static void ticks(Runs runs) {
        runs.run("promise 11: a row of tickers", "make 0 21 4 = 0", "make 1 10 0 = 1", "make 2 11 0 = 2",
            "plug 0 0 1 = 0", "plug 0 2 2 = 0", "plug 0 3 1 = 0", "ticks 0 2 = 15", "tell 1 6 = 6", "tell 2 9 = 1",
            "ticks 0 0 = 0", "ticks 0 8 = 12904", "acts = 9");
        runs.run("promise 11: a row of clocks", "make 0 22 2 = 0", "make 1 10 0 = 1", "plug 0 1 1 = 0",
            "ticks 0 8 = 120", "tell 1 6 = 36", "tell 1 3 = 0");
        runs.run("promise 11: reasons", "make 0 10 0 = 0", "make 1 9 0 = 1", "make 2 17 1 = 2", "ticks -1 0 = 0 ! 1",
            "ticks 16 0 = 0 ! 1", "ticks 0 -1 = 0 ! 1", "ticks 0 9 = 0 ! 1", "ticks 9 9 = 0 ! 1", "ticks 9 8 = 0 ! 2",
            "ticks 1 9 = 0 ! 1", "ticks 1 1 = 0 ! 3", "ticks 2 1 = 0 ! 3", "tell 0 6 = 0", "acts = 3");
    }

    private static void rest(Runs runs) {
        runs.run("promise 12: a row, one part twice", "make 0 17 3 = 0", "make 1 7 0 = 1", "make 2 10 0 = 2",
            "plug 0 0 1 = 0", "plug 0 1 1 = 0", "play 0 3 = 4", "rest 0 = 2", "tell 1 2 = 2", "tell 1 3 = 0",
            "tell 2 6 = 0", "plug 0 2 2 = 0", "rest 0 = 3", "tell 1 2 = 0", "tell 2 6 = 100", "acts = 9");
        runs.run("promise 12: a board", "make 0 23 3 = 0", "make 1 20 2 = 1", "make 2 7 0 = 2", "plug 1 1 2 = 0",
            "plug 0 0 1 = 0", "plug 0 2 1 = 0", "rest 0 = 2", "tell 2 2 = 2", "rest 1 = 1", "tell 2 2 = 1");
        runs.run("promise 12: no parts", "make 0 23 3 = 0", "rest 0 = 0", "make 0 22 3 = 1", "rest 0 = 0", "acts = 4");
        runs.run("promise 12: reasons", "make 0 11 0 = 0", "make 1 13 1 = 1", "make 2 21 1 = 2", "make 3 16 1 = 3",
            "rest -1 = 0 ! 1", "rest 16 = 0 ! 1", "rest 9 = 0 ! 2", "rest 0 = 0 ! 3", "rest 1 = 0 ! 3",
            "rest 2 = 0 ! 3", "rest 3 = 0 ! 3", "acts = 4");
    }
}
