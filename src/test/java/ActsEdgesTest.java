import java.util.ArrayList;
import java.util.List;

/** The boundary cases of promises 2 to 12: each reason at its edge and next to it, and which one counts. */
public final class ActsEdgesTest {
    public static void main(String[] args) {
        Runs runs = new Runs("ActsEdgesTest");
        make(runs);
        makeOrder(runs);
        lay(runs);
        plug(runs);
        plugOrder(runs);
        pull(runs);
        copyShelvesAndKinds(runs);
        copyFromPlaces(runs);
        copyToPlaces(runs);
        copyOverItself(runs);
        copyAsFarAsItFits(runs);
        copyOrder(runs);
        write(runs);
        knob(runs);
        play(runs);
        run(runs);
        ticks(runs);
        rest(runs);
        runs.end();
    }

    private static void make(Runs runs) {
        runs.each("promise 2: s", Runs.END_SHELF, "make # 4 0 = 0", "tell # 0 = 4");
        runs.each("promise 2: s not 0 .. 15", Runs.NO_SHELF, "make # 4 0 = 0 ! 1", "make 0 4 0 = 0");
        runs.each("promise 2: k", Runs.of(0, 1, 10, 11, 13, 14, 23, 24), "make 3 # 2 = 0", "tell 3 0 = #",
            "ask 3 # = 1");
        runs.each("promise 2: k not 0 .. 11 or 13 .. 24", Runs.of(-1, 12, 25, Integer.MIN_VALUE, Integer.MAX_VALUE, 32,
            45), "make 3 # 2 = 0 ! 1", "tell 3 0 = 0 ! 2");
        runs.each("promise 2: n of a row", Runs.of(0, 1, 11, 12), "make 3 20 # = 0", "size 3 = #");
        runs.each("promise 2: n of a part, which counts for nothing", Runs.of(0, 1, 11, 12), "make 3 0 # = 0",
            "size 3 = 0 ! 3", "tell 3 2 = 8");
        for (int kind : new int[] {0, 10, 11, 13, 15, 16, 22, 24}) {
            runs.each("promise 2: n not 0 .. 12, whatever k is: " + kind, Runs.of(-1, 13, Integer.MIN_VALUE,
                Integer.MAX_VALUE), "make 3 " + kind + " # = 0 ! 1", "tell 3 0 = 0 ! 2");
        }
        runs.run("promise 2: what was there doesn't lie there any more", "make 3 0 0 = 0", "make 3 9 0 = 1",
            "tell 3 1 = 1", "ask 3 9 = 1", "make 3 12 0 = 0 ! 1", "tell 3 1 = 1");
    }

    private static void makeOrder(Runs runs) {
        List<String> rows = new ArrayList<>();
        for (int n = 0; n < 60; n++) {
            rows.add("make 0 13 0 = " + n);
        }
        runs.run("promise 2: 1 counts ahead of 6", Runs.with(rows, "make 16 13 0 = 0 ! 1", "make 0 12 0 = 0 ! 1",
            "make 0 13 13 = 0 ! 1", "make 0 13 12 = 0 ! 6", "make 15 0 0 = 0 ! 6", "tell 0 1 = 59"));
    }

    private static void lay(Runs runs) {
        runs.each("promise 3: s", Runs.END_SHELF, "make # 0 0 = 0", "lay # 7 = 1", "tell 7 1 = 0", "tell # 1 = 0");
        runs.each("promise 3: t", Runs.END_SHELF, "make 7 0 0 = 0", "lay 7 # = 1", "tell # 1 = 0");
        runs.each("promise 3: s not 0 .. 15", Runs.NO_SHELF, "make 0 0 0 = 0", "lay # 0 = 0 ! 1", "tell 0 0 = 0");
        runs.each("promise 3: t not 0 .. 15", Runs.NO_SHELF, "make 0 0 0 = 0", "lay 0 # = 0 ! 1", "lay # # = 0 ! 1");
        runs.run("promise 3: NOTHING is laid", "make 0 0 0 = 0", "make 15 1 0 = 1", "lay 5 0 = 0", "tell 0 0 = 0 ! 2",
            "lay 5 5 = 0", "lay 15 15 = 1", "tell 15 1 = 1", "acts = 5");
    }

    private static void plug(Runs runs) {
        runs.each("promise 4: s", Runs.END_SHELF, "make # 17 1 = 0", "make 7 0 0 = 1", "plug # 0 7 = 0",
            "take # 17 0 = 1");
        runs.each("promise 4: t", Runs.END_SHELF, "make 7 17 1 = 0", "make # 0 0 = 1", "plug 7 0 # = 0",
            "take 7 17 0 = 1");
        runs.each("promise 4: s not 0 .. 15", Runs.NO_SHELF, "make 0 17 1 = 0", "plug # 0 5 = 0 ! 1");
        runs.each("promise 4: t not 0 .. 15", Runs.NO_SHELF, "make 0 17 1 = 0", "plug 0 0 # = 0 ! 1");
        runs.each("promise 4: i", Runs.END_PLACE, "make 0 17 12 = 0", "make 1 0 0 = 1", "plug 0 # 1 = 0",
            "take 0 17 # = 1", "take 0 17 1 = 0 ! 2", "take 0 17 10 = 0 ! 2", "plug 0 # 1 = 1", "plug 0 # 5 = 1",
            "plug 0 # 5 = 0");
        runs.each("promise 4: it has no place i", Runs.NO_PLACE, "make 0 17 12 = 0", "make 1 0 0 = 1",
            "plug 0 # 1 = 0 ! 4");
        runs.each("promise 4: a row of no places", Runs.of(-1, 0, 1), "make 0 17 0 = 0", "plug 0 # 5 = 0 ! 4");
        runs.each("promise 4: on s is no ROW OF THINGS", Runs.of(0, 10, 11, 13, 14, 15), "make 0 # 12 = 0",
            "plug 0 0 5 = 0 ! 3");
        runs.each("promise 4: on s is a ROW OF THINGS", Runs.of(16, 17, 18, 19, 20, 21, 22, 23, 24), "make 0 # 12 = 0",
            "plug 0 0 5 = 0");
        runs.run("promise 4: s holds NOTHING", "make 0 17 1 = 0", "lay 5 0 = 0", "plug 0 0 5 = 0 ! 2");
        runs.run("promise 4: a row doesn't fit in itself", "make 0 17 1 = 0", "plug 0 0 0 = 0 ! 5", "make 1 23 1 = 1",
            "plug 1 0 1 = 0 ! 5", "plug 1 0 0 = 0");
        runs.run("promise 4: what doesn't fit", "make 0 19 2 = 0", "make 1 2 0 = 1", "make 2 1 0 = 2", "make 3 3 0 = 3",
            "plug 0 0 2 = 0 ! 5", "plug 0 0 1 = 0", "plug 0 0 2 = 0 ! 5", "take 0 19 0 = 1", "plug 0 0 3 = 1",
            "take 0 19 0 = 3");
    }

    private static void plugOrder(Runs runs) {
        String title = "promise 4: of several reasons the one told first: ";
        String[] made = {"make 0 19 2 = 0", "make 1 0 0 = 1", "make 2 13 1 = 2"};
        runs.run(title + "1", Runs.with(made, "plug -1 9 1 = 0 ! 1", "plug 5 9 16 = 0 ! 1", "plug 1 9 -1 = 0 ! 1",
            "plug 2 0 16 = 0 ! 1", "plug 0 2 16 = 0 ! 1", "plug 0 0 16 = 0 ! 1"));
        runs.run(title + "2", Runs.with(made, "plug 5 9 1 = 0 ! 2", "plug 5 0 1 = 0 ! 2", "plug 5 0 5 = 0 ! 2"));
        runs.run(title + "3", Runs.with(made, "plug 1 9 1 = 0 ! 3", "plug 2 9 1 = 0 ! 3", "plug 2 0 2 = 0 ! 3",
            "plug 1 0 5 = 0 ! 3"));
        runs.run(title + "4", Runs.with(made, "plug 0 2 1 = 0 ! 4", "plug 0 -1 1 = 0 ! 4", "plug 0 2 5 = 0 ! 4"));
    }

    private static void pull(Runs runs) {
        String[] made = {"make 7 0 0 = 0", "make 8 17 12 = 1", "plug 8 0 7 = 0", "plug 8 11 7 = 0"};
        runs.each("promise 5: s", Runs.END_SHELF, Runs.with(made, "lay 8 # = 1", "pull # 0 9 = 1", "tell 9 1 = 0"));
        runs.each("promise 5: t", Runs.END_SHELF, Runs.with(made, "pull 8 11 # = 1", "tell # 1 = 0", "pull 8 10 # = 0",
            "tell # 1 = 0 ! 2", "take 8 17 11 = 0"));
        runs.each("promise 5: s not 0 .. 15", Runs.NO_SHELF, Runs.with(made, "pull # 0 9 = 0 ! 1"));
        runs.each("promise 5: t not 0 .. 15", Runs.NO_SHELF, Runs.with(made, "pull 8 0 # = 0 ! 1"));
        runs.each("promise 5: i", Runs.END_PLACE, Runs.with(made, "pull 8 # 9 = 1", "tell 9 1 = 0"));
        runs.each("promise 5: it has no place i", Runs.NO_PLACE, Runs.with(made, "pull 8 # 7 = 0 ! 4", "tell 7 1 = 0"));
        runs.each("promise 5: a row of no places", Runs.of(-1, 0, 1), "make 0 22 0 = 0", "pull 0 # 5 = 0 ! 4");
        runs.each("promise 5: on s is no ROW OF THINGS", Runs.of(0, 10, 11, 13, 14, 15), "make 0 # 12 = 0",
            "pull 0 0 0 = 0 ! 3");
        runs.run("promise 5: s holds NOTHING", "pull 0 0 1 = 0 ! 2", "make 1 0 0 = 0", "pull 0 0 1 = 0 ! 2");
        runs.run("promise 5: onto its own shelf", Runs.with(made, "pull 8 11 8 = 1", "tell 8 0 = 0",
            "pull 8 11 8 = 0 ! 3"));
        runs.run("promise 5: of several reasons the one told first", made[0], made[1], "pull 5 -1 16 = 0 ! 1",
            "pull 7 0 -1 = 0 ! 1", "pull 8 12 16 = 0 ! 1", "pull 16 12 0 = 0 ! 1", "pull 5 12 0 = 0 ! 2",
            "pull 7 12 0 = 0 ! 3", "pull 8 12 0 = 0 ! 4");
    }

    private static void copyShelvesAndKinds(Runs runs) {
        runs.each("promise 6: s", Runs.END_SHELF, "make # 13 2 = 0", "make 7 13 2 = 1", "write # 0 5 = 1",
            "copy # 0 7 1 1 = 1", "read 7 1 = 5", "read 7 0 = 0");
        runs.each("promise 6: t", Runs.END_SHELF, "make 7 13 2 = 0", "make # 13 2 = 1", "write 7 0 5 = 1",
            "copy 7 0 # 1 1 = 1", "read # 1 = 5", "read # 0 = 0");
        runs.each("promise 6: s not 0 .. 15", Runs.NO_SHELF, "make 0 13 2 = 0", "copy # 0 0 0 0 = 0 ! 1");
        runs.each("promise 6: t not 0 .. 15", Runs.NO_SHELF, "make 0 13 2 = 0", "copy 0 0 # 0 0 = 0 ! 1");
        runs.run("promise 6: s or t holds NOTHING", "make 0 13 2 = 0", "copy 0 0 1 0 0 = 0 ! 2",
            "copy 1 0 0 0 0 = 0 ! 2", "copy 1 0 2 0 0 = 0 ! 2");
        runs.each("promise 6: on s or t is no ROW", Runs.of(0, 4, 10, 11), "make 0 # 2 = 0", "make 1 17 2 = 1",
            "make 2 13 2 = 2", "copy 0 0 1 0 0 = 0 ! 3", "copy 1 0 0 0 0 = 0 ! 3", "copy 0 0 2 0 0 = 0 ! 3",
            "copy 2 0 0 0 0 = 0 ! 3", "copy 0 0 0 0 0 = 0 ! 3");
        for (int one = 13; one < 25; one++) {
            for (int other = 13; other < 25; other++) {
                boolean refused = one != other && (one < 16 || other < 16);
                runs.run("promise 6: from " + one + " to " + other, "make 0 " + one + " 2 = 0",
                    "make 1 " + other + " 2 = 1", "copy 0 0 1 0 2 = " + (refused ? "0 ! 3" : "2"),
                    "copy 0 0 1 0 0 = 0" + (refused ? " ! 3" : ""));
            }
        }
    }

    private static void copyFromPlaces(Runs runs) {
        String[] made = {"make 0 15 3 = 0", "make 1 15 12 = 1", "write 0 2 7 = 1"};
        runs.run("promise 6: i and n together are just what s has", Runs.with(made, "copy 0 0 1 0 3 = 3",
            "read 1 2 = 7", "copy 0 2 1 4 1 = 1", "read 1 4 = 7", "copy 0 1 1 10 2 = 2", "read 1 11 = 7",
            "read 1 10 = 0", "copy 0 3 1 0 0 = 0", "read 1 0 = 0"));
        runs.run("promise 6: i and n together are one more than s has", Runs.with(made, "copy 0 0 1 0 4 = 0 ! 4",
            "copy 0 1 1 0 3 = 0 ! 4", "copy 0 2 1 0 2 = 0 ! 4", "copy 0 3 1 0 1 = 0 ! 4", "copy 0 4 1 0 0 = 0 ! 4"));
        runs.each("promise 6: i is below 0", Runs.of(-1, -3, Integer.MIN_VALUE), Runs.with(made,
            "copy 0 # 1 0 0 = 0 ! 4", "copy 0 # 1 0 1 = 0 ! 4", "copy 0 # 1 0 4 = 0 ! 4"));
        runs.each("promise 6: n is below 0", Runs.of(-1, -3, Integer.MIN_VALUE), Runs.with(made,
            "copy 0 0 1 0 # = 0 ! 4", "copy 0 3 1 3 # = 0 ! 4", "copy 0 0 0 0 # = 0 ! 4"));
        runs.each("promise 6: i and n are added without wrapping", Runs.of(Integer.MAX_VALUE), Runs.with(made,
            "copy 0 # 1 0 0 = 0 ! 4", "copy 0 # 1 0 1 = 0 ! 4", "copy 0 # 1 0 2 = 0 ! 4", "copy 0 # 1 0 # = 0 ! 4",
            "copy 0 1 1 0 # = 0 ! 4", "copy 0 2 1 0 # = 0 ! 4", "copy 0 0 1 0 # = 0 ! 4"));
    }

    private static void copyToPlaces(Runs runs) {
        String[] made = {"make 0 15 12 = 0", "make 1 15 3 = 1", "write 0 11 7 = 1"};
        runs.run("promise 6: j and n together are just what t has", Runs.with(made, "copy 0 9 1 0 3 = 3",
            "read 1 2 = 7", "copy 0 11 1 1 1 = 1", "read 1 1 = 7", "read 1 0 = 0", "copy 0 10 1 1 2 = 2",
            "read 1 1 = 0", "read 1 2 = 7", "copy 0 0 1 3 0 = 0", "copy 0 12 1 3 0 = 0"));
        runs.run("promise 6: j and n together are one more than t has", Runs.with(made, "copy 0 0 1 0 4 = 0 ! 4",
            "copy 0 0 1 1 3 = 0 ! 4", "copy 0 0 1 2 2 = 0 ! 4", "copy 0 0 1 3 1 = 0 ! 4", "copy 0 0 1 4 0 = 0 ! 4"));
        runs.each("promise 6: j is below 0", Runs.of(-1, -3, Integer.MIN_VALUE), Runs.with(made,
            "copy 0 0 1 # 0 = 0 ! 4", "copy 0 0 1 # 1 = 0 ! 4", "copy 0 0 1 # 4 = 0 ! 4"));
        runs.each("promise 6: j and n are added without wrapping", Runs.of(Integer.MAX_VALUE), Runs.with(made,
            "copy 0 0 1 # 0 = 0 ! 4", "copy 0 0 1 # 1 = 0 ! 4", "copy 0 0 1 # 2 = 0 ! 4", "copy 0 # 1 # # = 0 ! 4"));
        runs.each("promise 6: a row of no places", Runs.of(13, 14, 15, 16, 17, 21, 23), "make 0 # 0 = 0",
            "make 1 # 12 = 1", "copy 0 0 1 12 0 = 0", "copy 1 12 0 0 0 = 0", "copy 0 0 0 0 0 = 0",
            "copy 0 0 1 0 1 = 0 ! 4", "copy 1 0 0 0 1 = 0 ! 4", "copy 0 1 1 0 0 = 0 ! 4", "copy 1 0 0 1 0 = 0 ! 4");
        runs.each("promise 6: 12 places", Runs.of(13, 14, 15, 16, 17, 21, 23), "make 0 # 12 = 0", "make 1 # 12 = 1",
            "copy 0 0 1 0 12 = 12", "copy 0 0 1 0 13 = 0 ! 4", "acts = 3");
    }

    private static void copyOverItself(Runs runs) {
        String[] made = {"make 0 13 4 = 0", "write 0 0 1 = 1", "write 0 1 2 = 1", "write 0 2 3 = 1", "write 0 3 4 = 1"};
        runs.run("promise 6: the same row, one up", Runs.with(made, "copy 0 0 0 1 3 = 3", "read 0 0 = 1",
            "read 0 1 = 1", "read 0 2 = 2", "read 0 3 = 3"));
        runs.run("promise 6: the same row, one down", Runs.with(made, "copy 0 1 0 0 3 = 3", "read 0 0 = 2",
            "read 0 1 = 3", "read 0 2 = 4", "read 0 3 = 4"));
        runs.run("promise 6: the same row, onto itself", Runs.with(made, "copy 0 0 0 0 4 = 4", "read 0 0 = 1",
            "read 0 1 = 2", "read 0 2 = 3", "read 0 3 = 4", "acts = 6"));
        runs.run("promise 6: the same row from two shelves", Runs.with(made, "lay 0 9 = 1", "copy 9 0 0 2 2 = 2",
            "read 9 0 = 1", "read 9 2 = 1", "read 0 3 = 2"));
        String[] things = {"make 0 17 3 = 0", "make 1 0 0 = 1", "make 2 9 0 = 2", "plug 0 0 1 = 0", "plug 0 1 2 = 0"};
        runs.run("promise 6: the same row of things, one up", Runs.with(things, "copy 0 0 0 1 2 = 2", "take 0 17 0 = 1",
            "take 0 17 1 = 1", "take 0 17 2 = 2"));
        runs.run("promise 6: the same row of things, one down", Runs.with(things, "copy 0 1 0 0 2 = 2",
            "take 0 17 0 = 2", "take 0 17 1 = 0 ! 2", "take 0 17 2 = 0 ! 2"));
    }

    private static void copyAsFarAsItFits(Runs runs) {
        String[] rows = {"make 0 17 3 = 0", "make 1 19 3 = 1", "make 2 2 0 = 2", "make 3 1 0 = 3", "make 4 4 0 = 4",
            "plug 0 0 2 = 0", "plug 0 1 2 = 0", "plug 0 2 2 = 0", "plug 1 0 4 = 0", "plug 1 1 4 = 0", "plug 1 2 4 = 0"};
        for (int misfit = 0; misfit <= 3; misfit++) {
            String[] all = Runs.with(rows, misfit < 3 ? "plug 0 " + misfit + " 3 = 1" : "plug 0 0 2 = 1",
                "copy 0 0 1 0 3 = " + misfit + (misfit < 3 ? " ! 5" : ""));
            for (int i = 0; i < 3; i++) {
                all = Runs.with(all, "take 1 19 " + i + " = " + (i < misfit ? 2 : 4));
            }
            runs.run("promise 6: the first that does not fit is at " + misfit,
                Runs.with(all, "acts = 13", "undo = 12"));
        }
        runs.run("promise 6: what does not fit behind the n places is not looked at", "make 0 17 2 = 0",
            "make 1 18 2 = 1", "make 2 1 0 = 2", "make 3 0 0 = 3", "plug 0 0 2 = 0", "plug 0 1 3 = 0",
            "copy 0 0 1 1 1 = 1", "take 1 18 1 = 2", "copy 0 1 1 0 0 = 0", "copy 0 1 1 0 1 = 0 ! 5",
            "take 1 18 0 = 0 ! 2");
        runs.run("promise 6: what does not fit ahead of place i is not looked at", "make 0 17 2 = 0", "make 1 18 2 = 1",
            "make 2 1 0 = 2", "make 3 0 0 = 3", "plug 0 0 3 = 0", "plug 0 1 2 = 0", "copy 0 1 1 0 1 = 1",
            "take 1 18 0 = 2", "copy 0 1 1 1 0 = 0");
        runs.run("promise 6: NOTHING fits always", "make 0 16 2 = 0", "make 1 22 2 = 1", "make 2 10 0 = 2",
            "plug 1 0 2 = 0", "plug 1 1 2 = 0", "copy 0 0 1 0 1 = 1", "take 1 22 0 = 0 ! 2", "take 1 22 1 = 2");
        runs.run("promise 6: things fit by their own kind, not their row's", "make 0 17 1 = 0", "make 1 21 1 = 1",
            "make 2 10 0 = 2", "make 3 9 0 = 3", "plug 0 0 2 = 0", "copy 0 0 1 0 1 = 1", "take 1 21 0 = 2",
            "plug 0 0 3 = 1", "copy 0 0 1 0 1 = 0 ! 5", "make 4 11 0 = 4", "plug 1 0 4 = 1", "copy 1 0 0 0 1 = 0 ! 5",
            "take 0 17 0 = 3");
    }

    private static void copyOrder(Runs runs) {
        String title = "promise 6: of several reasons the one told first: ";
        String[] made = {"make 0 17 2 = 0", "make 1 19 2 = 1", "make 2 0 0 = 2", "make 3 13 2 = 3", "plug 0 0 2 = 0"};
        runs.run(title + "1", Runs.with(made, "copy -1 0 5 0 0 = 0 ! 1", "copy 5 0 16 0 0 = 0 ! 1",
            "copy 2 0 16 0 0 = 0 ! 1", "copy 0 -1 16 0 0 = 0 ! 1", "copy 16 9 2 9 9 = 0 ! 1"));
        runs.run(title + "2", Runs.with(made, "copy 2 0 5 0 0 = 0 ! 2", "copy 5 0 2 0 0 = 0 ! 2",
            "copy 0 9 5 0 0 = 0 ! 2", "copy 5 -1 3 0 9 = 0 ! 2"));
        runs.run(title + "3", Runs.with(made, "copy 0 9 3 0 0 = 0 ! 3", "copy 3 0 0 -1 0 = 0 ! 3",
            "copy 2 0 0 0 -1 = 0 ! 3", "copy 0 0 2 2147483647 1 = 0 ! 3"));
        runs.run(title + "4", Runs.with(made, "copy 0 0 1 0 3 = 0 ! 4", "copy 0 0 1 2 1 = 0 ! 4",
            "copy 0 0 1 -1 1 = 0 ! 4", "copy 0 0 1 0 1 = 0 ! 5"));
    }

    private static void write(Runs runs) {
        runs.each("promise 7: s", Runs.END_SHELF, "make # 13 1 = 0", "write # 0 -5 = 1", "read # 0 = -5");
        runs.each("promise 7: s not 0 .. 15", Runs.NO_SHELF, "make 0 13 1 = 0", "write # 0 5 = 0 ! 1");
        runs.each("promise 7: i", Runs.END_PLACE, "make 0 14 12 = 0", "write 0 # 9 = 1", "read 0 # = 9", "read 0 1 = 0",
            "read 0 10 = 0");
        runs.each("promise 7: it has no place i", Runs.NO_PLACE, "make 0 14 12 = 0", "write 0 # 9 = 0 ! 4");
        runs.each("promise 7: a row of no places", Runs.of(13, 14, 15), "make 0 # 0 = 0", "write 0 0 1 = 0 ! 4",
            "write 0 -1 1 = 0 ! 4");
        runs.each("promise 7: on s is no NUMBER ROW", Runs.of(0, 9, 11, 16, 17, 21, 24), "make 0 # 12 = 0",
            "write 0 0 5 = 0 ! 3");
        runs.run("promise 7: s holds NOTHING", "write 0 0 5 = 0 ! 2", "make 1 13 1 = 0", "write 0 0 5 = 0 ! 2");
        runs.run("promise 7: of several reasons the one told first", "make 0 13 1 = 0", "make 1 17 1 = 1",
            "write 16 9 5 = 0 ! 1", "write 5 9 5 = 0 ! 2", "write 1 9 5 = 0 ! 3", "write 0 9 5 = 0 ! 4");
        runs.run("promise 7: the lowest bits, as a number with sign", "make 0 13 1 = 0", "make 1 14 1 = 1",
            "make 2 15 1 = 2", "write 0 0 6442450944 = 1", "read 0 0 = -2147483648", "write 1 0 384 = 1",
            "read 1 0 = -128", "write 1 0 383 = 1", "read 1 0 = 127", "write 2 0 -9223372036854775808 = 1",
            "read 2 0 = -9223372036854775808");
    }

    private static void knob(Runs runs) {
        runs.each("promise 8: s", Runs.END_SHELF, "make # 0 0 = 0", "knob # 5 = 8", "tell # 2 = 5");
        runs.each("promise 8: s not 0 .. 15", Runs.NO_SHELF, "make 0 0 0 = 0", "knob # 5 = 0 ! 1");
        runs.each("promise 8: v", Runs.of(-1000, -999, -1, 0, 1, 999, 1000), "make 0 4 0 = 0", "knob 0 # = 8",
            "tell 0 2 = #", "knob 0 # = #");
        runs.each("promise 8: v not -1000 .. 1000", Runs.of(-1001, 1001, Integer.MIN_VALUE, Integer.MAX_VALUE),
            "make 0 4 0 = 0", "knob 0 # = 0 ! 1", "tell 0 2 = 8");
        runs.each("promise 8: on s is no PART", Runs.of(11, 13, 16, 17, 21, 24), "make 0 # 1 = 0", "knob 0 5 = 0 ! 3");
        runs.run("promise 8: s holds NOTHING", "knob 0 5 = 0 ! 2");
        runs.run("promise 8: of several reasons the one told first", "make 0 11 0 = 0", "knob 16 1001 = 0 ! 1",
            "knob 5 1001 = 0 ! 1", "knob 0 -1001 = 0 ! 1", "knob 5 1000 = 0 ! 2", "knob 0 1000 = 0 ! 3");
    }

    private static void play(Runs runs) {
        runs.each("promise 9: s", Runs.END_SHELF, "make # 9 0 = 0", "play # 5 = 6");
        runs.each("promise 9: s not 0 .. 15", Runs.NO_SHELF, "make 0 9 0 = 0", "play # 5 = 0 ! 1");
        runs.each("promise 9: x is any int", Runs.of(Integer.MIN_VALUE, -1, 0, 1, Integer.MAX_VALUE), "make 0 0 0 = 0",
            "make 1 17 2 = 1", "plug 1 1 0 = 0", "make 2 23 2 = 2", "plug 2 1 1 = 0", "play 0 # = #", "play 1 # = #",
            "play 2 # = #", "tell 0 3 = 3");
        runs.run("promise 9: s holds NOTHING", "play 0 5 = 0 ! 2");
        runs.each("promise 9: what is on s is not PLAYED", Runs.of(11, 13, 14, 15, 16, 21), "make 0 # 1 = 0",
            "play 0 5 = 0 ! 3");
        runs.run("promise 9: a row of clocks is PLAYED, a row of tickers with clocks not", "make 0 10 0 = 0",
            "make 1 22 1 = 1", "make 2 21 1 = 2", "plug 1 0 0 = 0", "plug 2 0 0 = 0", "play 1 5 = 6",
            "play 2 5 = 0 ! 3", "tell 0 6 = 1");
    }

    private static void run(Runs runs) {
        runs.each("promise 10: s", Runs.END_SHELF, "make # 9 0 = 0", "make 7 13 1 = 1", "run # 7 = 1", "read 7 0 = 1");
        runs.each("promise 10: t", Runs.END_SHELF, "make 7 9 0 = 0", "make # 13 1 = 1", "run 7 # = 1", "read # 0 = 1");
        runs.each("promise 10: s not 0 .. 15", Runs.NO_SHELF, "make 0 13 1 = 0", "run # 0 = 0 ! 1");
        runs.each("promise 10: t not 0 .. 15", Runs.NO_SHELF, "make 0 9 0 = 0", "run 0 # = 0 ! 1");
        runs.each("promise 10: how many places t's row has", Runs.of(0, 1, 11, 12), "make 0 9 0 = 0", "make 1 13 # = 1",
            "run 0 1 = #", "tell 0 3 = #", "tell 0 6 = #", "acts = 3");
        runs.run("promise 10: each place, from 0 on", "make 0 7 0 = 0", "knob 0 16 = 8", "make 1 13 3 = 1",
            "write 1 0 1 = 1", "write 1 1 10 = 1", "write 1 2 100 = 1", "run 0 1 = 3", "read 1 0 = 1", "read 1 1 = 11",
            "read 1 2 = 110", "run 0 1 = 3", "read 1 0 = 101");
        runs.run("promise 10: s or t holds NOTHING", "make 0 9 0 = 0", "make 1 13 1 = 1", "run 0 5 = 0 ! 2",
            "run 5 1 = 0 ! 2", "run 5 6 = 0 ! 2");
        runs.each("promise 10: what is on s is not PLAYED", Runs.of(11, 13, 14, 15, 16, 21), "make 0 # 1 = 0",
            "make 1 13 1 = 1", "run 0 1 = 0 ! 3");
        runs.each("promise 10: on t are no NUMBERS", Runs.of(0, 11, 14, 15, 16, 17, 23), "make 0 9 0 = 0",
            "make 1 # 1 = 1", "run 0 1 = 0 ! 3", "tell 0 3 = 0");
        runs.run("promise 10: of several reasons the one told first", "make 0 11 0 = 0", "make 1 14 1 = 1",
            "run 16 5 = 0 ! 1", "run 5 16 = 0 ! 1", "run 0 -1 = 0 ! 1", "run 0 5 = 0 ! 2", "run 5 1 = 0 ! 2",
            "run 0 1 = 0 ! 3");
    }

    private static void ticks(Runs runs) {
        runs.each("promise 11: s", Runs.END_SHELF, "make # 10 0 = 0", "ticks # 1 = 1");
        runs.each("promise 11: s not 0 .. 15", Runs.NO_SHELF, "make 0 10 0 = 0", "ticks # 1 = 0 ! 1");
        runs.each("promise 11: n not 0 .. 8", Runs.of(-1, 9, Integer.MIN_VALUE, Integer.MAX_VALUE), "make 0 10 0 = 0",
            "ticks 0 # = 0 ! 1", "tell 0 6 = 0", "make 1 21 1 = 1", "plug 1 0 0 = 0", "ticks 1 # = 0 ! 1");
        runs.run("promise 11: s holds NOTHING", "ticks 0 0 = 0 ! 2", "ticks 0 8 = 0 ! 2");
        runs.each("promise 11: it is neither", Runs.of(0, 8, 9, 13, 16, 17, 18, 19, 20, 23, 24), "make 0 # 1 = 0",
            "ticks 0 0 = 0 ! 3", "ticks 0 8 = 0 ! 3");
        runs.each("promise 11: a row of no places, or of NOTHING", Runs.of(0, 1, 12), "make 0 21 # = 0",
            "ticks 0 8 = 0", "make 1 22 # = 1", "ticks 1 8 = 0", "acts = 4");
        runs.run("promise 11: a row of clocks in a ROW OF PLAIN doesn't tick", "make 0 17 1 = 0", "make 1 10 0 = 1",
            "plug 0 0 1 = 0", "ticks 0 1 = 0 ! 3", "tell 1 6 = 0");
        runs.run("promise 11: the TICKS of one thing behind those of the other", "make 0 21 12 = 0", "make 1 11 0 = 1",
            "plug 0 0 1 = 0", "plug 0 11 1 = 0", "ticks 0 2 = 14", "tell 1 9 = 10", "undo = 4", "ticks 0 3 = 207",
            "tell 1 9 = 140");
        runs.run("promise 11: of several reasons the one told first", "make 0 9 0 = 0", "ticks 5 9 = 0 ! 1",
            "ticks 0 -1 = 0 ! 1", "ticks 16 8 = 0 ! 1", "ticks 5 8 = 0 ! 2", "ticks 0 8 = 0 ! 3");
    }

    private static void rest(Runs runs) {
        runs.each("promise 12: s", Runs.END_SHELF, "make # 10 0 = 0", "rest # = 1", "tell # 6 = 100");
        runs.each("promise 12: s not 0 .. 15", Runs.NO_SHELF, "make 0 10 0 = 0", "rest # = 0 ! 1");
        runs.run("promise 12: s holds NOTHING", "rest 0 = 0 ! 2");
        runs.each("promise 12: what is on s is not PLAYED", Runs.of(11, 13, 14, 15, 16, 21), "make 0 # 1 = 0",
            "rest 0 = 0 ! 3");
        runs.run("promise 12: one that is there twice twice", "make 0 17 12 = 0", "make 1 7 0 = 1", "knob 1 1000 = 8",
            "plug 0 0 1 = 0", "rest 0 = 1", "tell 1 2 = 500", "plug 0 11 1 = 0", "rest 0 = 2", "tell 1 2 = 125",
            "plug 0 5 1 = 0", "rest 0 = 3", "tell 1 2 = 15");
        runs.run("promise 12: of a board row by row, one that is there twice twice", "make 0 23 12 = 0",
            "make 1 17 2 = 1", "make 2 8 0 = 2", "knob 2 -1000 = 8", "plug 1 1 2 = 0", "plug 0 0 1 = 0",
            "plug 0 11 1 = 0", "rest 0 = 2", "tell 2 2 = -250", "plug 1 0 2 = 0", "rest 0 = 4", "tell 2 2 = -16",
            "rest 0 = 4", "tell 2 2 = -1", "rest 0 = 4", "tell 2 2 = -1");
        runs.run("promise 12: of several reasons the one told first", "make 0 13 0 = 0", "rest 16 = 0 ! 1",
            "rest 5 = 0 ! 2", "rest 0 = 0 ! 3");
    }
}
