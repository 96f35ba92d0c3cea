import java.util.ArrayList;
import java.util.List;

/** The boundary cases of promises 13 to 18: the sheet, carrying it out, taking back. */
public final class SheetEdgesTest {

    public static void main(String[] args) {
        Runs runs = new Runs("SheetEdgesTest");
        when(runs);
        begin(runs);
        end(runs);
        carryTimes(runs);
        carrySum(runs);
        whenReasons(runs);
        whenPassesOver(runs);
        whenAtTheEnd(runs);
        carryEndsAtALine(runs);
        carryEndsInATime(runs);
        carryEndsByEachCall(runs);
        undo(runs);
        acts(runs);
        mostCalls(runs);
        runs.end();
    }

    private static void when(Runs runs) {
        runs.run("promise 13: not RECORDING", "when 0 0 = 0 ! 7", "when 16 25 = 0 ! 7", "begin = 1", "end = 0",
            "when 0 0 = 0 ! 7", "make 0 0 0 = 0", "when 0 0 = 0 ! 7", "acts = 1");
        runs.run("promise 13: RECORDING", "begin = 1", "when 0 0 = 1", "when 16 25 = 2", "end = 2", "acts = 0");
    }

    private static void begin(Runs runs) {
        runs.run("promise 14: RECORDING already", "begin = 1", "begin = 0 ! 7", "make 0 0 0 = 1", "begin = 0 ! 7",
            "make 0 0 0 = 2", "end = 2", "carry 1 = 1");
        runs.run("promise 14: the sheet is empty", "begin = 1", "make 0 0 0 = 1", "end = 1", "begin = 1", "end = 0",
            "carry 1 = 0", "tell 0 0 = 0 ! 2");
        runs.run("promise 14: a shorter sheet over a longer one", "begin = 1", "make 0 9 0 = 1", "play 0 5 = 2",
            "play 0 5 = 3", "end = 3", "begin = 1", "make 0 9 0 = 1", "end = 1", "carry 1 = 0", "tell 0 3 = 0");
        runs.run("promise 14: begin is no ACT and takes none back", "make 0 0 0 = 0", "begin = 1", "acts = 1",
            "end = 0", "undo = 0");
    }

    private static void end(Runs runs) {
        runs.run("promise 15: not RECORDING", "end = 0 ! 7", "begin = 1", "end = 0", "end = 0 ! 7", "begin = 1",
            "lay 0 0 = 1", "end = 1", "end = 0 ! 7", "carry 1 = 0");
        for (int n : new int[] {0, 1, 15, 16}) {
            List<String> rows = new ArrayList<>(List.of("begin = 1"));
            for (int line = 1; line <= n; line++) {
                rows.add("lay 0 0 = " + line);
            }
            runs.run("promise 15: how many lines the sheet has: " + n, Runs.with(rows, "end = " + n, "carry 1 = 0",
                "lay 0 0 = 0"));
        }
    }

    private static void carryTimes(Runs runs) {
        String[] made = {"make 0 9 0 = 0", "begin = 1", "play 0 0 = 1", "end = 1"};
        int[] sums = {0, 1, 3, 6, 10};
        for (int m = 1; m <= 4; m++) {
            runs.run("promise 16: m times over: " + m, Runs.with(made, "carry " + m + " = " + sums[m],
                "tell 0 6 = " + m, "acts = 2", "undo = 1", "tell 0 6 = 0"));
        }
        runs.each("promise 16: m not 1 .. 4", Runs.of(0, 5, -1, Integer.MIN_VALUE, Integer.MAX_VALUE), Runs.with(made,
            "carry # = 0 ! 1", "tell 0 6 = 0", "acts = 1"));
        runs.each("promise 16: 1 counts ahead of 7", Runs.of(0, 5), made[0], made[1], "carry # = 0 ! 1",
            "carry 1 = 0 ! 7", "carry 4 = 0 ! 7", "play 0 0 = 1", "end = 1", "carry 1 = 1");
        runs.run("promise 16: an empty sheet, behind a refused call", "undo = 0 ! 7", "carry 1 = 0", "acts = 1");
        runs.run("promise 16: an empty sheet", "carry 1 = 0", "carry 4 = 0", "acts = 2", "undo = 1", "undo = 0");
    }

    private static void carrySum(Runs runs) {
        runs.run("promise 16: the sum of what the lines answered", "begin = 1", "make 3 9 0 = 1", "make 4 7 0 = 2",
            "knob 4 -5 = 3", "play 3 -10 = 4", "lay 3 5 = 5", "when 5 9 = 6", "when 5 7 = 7", "make 16 0 0 = 8",
            "end = 8", "carry 1 = 2", "tell 5 0 = 9", "acts = 1");
        runs.run("promise 16: each as its call, one behind the other", "make 0 13 2 = 0", "make 1 9 0 = 1", "begin = 1",
            "run 1 0 = 1", "copy 0 1 0 0 1 = 2", "write 0 1 100 = 3", "end = 3", "carry 2 = 8", "read 0 0 = 104",
            "read 0 1 = 100", "tell 1 6 = 4");
    }

    private static void whenReasons(Runs runs) {
        String[] made = {"make 0 10 0 = 0", "make 15 24 1 = 1", "begin = 1"};
        runs.each("promise 16: when, s", Runs.of(0), Runs.with(made, "when # 0 = 1", "when # 12 = 2", "play 0 5 = 3",
            "end = 3", "carry 1 = 8"));
        runs.each("promise 16: when, s is the last shelf", Runs.of(15), Runs.with(made, "when # 24 = 1", "when # 0 = 2",
            "play 0 5 = 3", "end = 3", "carry 1 = 1"));
        runs.each("promise 16: when, s not 0 .. 15", Runs.NO_SHELF, Runs.with(made, "play 0 5 = 1", "when # 0 = 2",
            "end = 2", "carry 1 = 2 ! 1", "tell 0 6 = 0"));
        runs.each("promise 16: when, k not 0 .. 24", Runs.NO_KIND, Runs.with(made, "play 0 5 = 1", "when 0 # = 2",
            "end = 2", "carry 1 = 2 ! 1", "tell 0 6 = 0"));
        runs.each("promise 16: when, k not 0 .. 24, of an empty shelf", Runs.NO_KIND, made[2], "when 0 # = 1",
            "end = 1", "carry 1 = 1 ! 1");
        for (int k = 0; k < 25; k++) {
            boolean under = k == 0 || k == 9 || k == 10 || k == 12;
            runs.run("promise 16: when of a CLOCK and " + k, made[0], made[2], "when 0 " + k + " = 1", "end = 1",
                "carry 1 = " + (under ? 1 : 0));
        }
    }

    private static void whenPassesOver(Runs runs) {
        runs.run("promise 16: when answers 0: the next line is passed over, the one behind it is done",
            "make 0 9 0 = 0", "begin = 1", "when 0 10 = 1", "play 0 100 = 2", "play 0 0 = 3", "end = 3", "carry 1 = 1",
            "carry 2 = 5");
        runs.run("promise 16: when answers 1: no line is passed over", "make 0 9 0 = 0", "begin = 1", "when 0 9 = 1",
            "play 0 100 = 2", "play 0 0 = 3", "end = 3", "carry 1 = 104");
        runs.run("promise 16: of an empty shelf", "make 1 9 0 = 0", "begin = 1", "when 0 9 = 1", "play 1 100 = 2",
            "play 1 0 = 3", "end = 3", "carry 1 = 1");
        String[] wrong = {"make 16 0 0", "lay -1 0", "plug 0 0 0", "pull 5 0 0", "copy 0 0 0 0 1", "write 0 0 0",
            "knob 0 1001", "play 5 0", "run 0 0", "ticks 0 9", "rest 5", "when 0 25", "make 0 12 0"};
        for (String line : wrong) {
            runs.run("promise 16: passed over and not looked at: " + line, "make 0 0 0 = 0", "begin = 1",
                "when 0 1 = 1", line + " = 2", "end = 2", "carry 4 = 0", "acts = 2");
        }
        runs.run("promise 16: a when that is passed over passes nothing over", "make 0 9 0 = 0", "begin = 1",
            "when 0 10 = 1", "when 0 10 = 2", "play 0 0 = 3", "end = 3", "carry 1 = 1");
        runs.run("promise 16: a when that is so, and one that isn't", "make 0 9 0 = 0", "begin = 1", "when 0 9 = 1",
            "when 0 10 = 2", "play 0 100 = 3", "play 0 0 = 4", "end = 4", "carry 1 = 2");
        runs.run("promise 16: another line that answers 0 passes nothing over", "make 0 0 0 = 0", "make 1 9 0 = 1",
            "begin = 1", "play 0 0 = 1", "play 1 0 = 2", "lay 5 6 = 3", "play 1 0 = 4", "end = 4", "carry 1 = 3");
    }

    private static void whenAtTheEnd(Runs runs) {
        runs.run("promise 16: the next line of the same time over, if there is one", "make 0 9 0 = 0", "begin = 1",
            "play 0 0 = 1", "when 0 10 = 2", "end = 2", "carry 1 = 1", "carry 4 = 14", "tell 0 6 = 5");
        runs.run("promise 16: a sheet of one when", "begin = 1", "when 0 0 = 1", "end = 1", "carry 4 = 0", "acts = 1");
        List<String> rows = new ArrayList<>(List.of("make 0 9 0 = 0", "begin = 1"));
        for (int line = 1; line <= 14; line++) {
            rows.add("lay 0 0 = " + line);
        }
        runs.run("promise 16: line 15 passes line 16 over", Runs.with(rows, "when 0 10 = 15", "rest 16 = 16",
            "end = 16", "carry 4 = 56"));
        rows = new ArrayList<>(List.of("make 0 9 0 = 0", "begin = 1"));
        for (int line = 1; line <= 15; line++) {
            rows.add("lay 0 0 = " + line);
        }
        runs.run("promise 16: line 16 passes nothing over", Runs.with(rows, "when 0 10 = 16", "end = 16",
            "carry 4 = 60"));
    }

    private static void carryEndsAtALine(Runs runs) {
        for (int line : new int[] {1, 2, 15, 16}) {
            List<String> rows = new ArrayList<>(List.of("make 0 9 0 = 0", "make 1 13 1 = 1", "begin = 1"));
            for (int n = 1; n <= 16; n++) {
                rows.add((n == line ? "write 1 1 5" : "play 0 1") + " = " + n);
            }
            runs.run("promise 16: it ends at line " + line, Runs.with(rows, "end = 16", "carry 1 = " + line + " ! 4",
                "carry 4 = " + line + " ! 4", "tell 0 6 = 0", "tell 0 3 = 0", "acts = 2", "undo = 1"));
        }
        runs.run("promise 16: the first line that is refused counts", "begin = 1", "rest 16 = 1", "rest 5 = 2",
            "end = 2", "carry 1 = 1 ! 1");
    }

    private static void carryEndsInATime(Runs runs) {
        String[] rows = {"make 0 0 0 = 0", "lay 0 1 = 1", "lay 0 2 = 1", "lay 0 3 = 1", "make 9 9 0 = 1", "begin = 1",
            "play 9 0 = 1", "play 3 0 = 2", "lay 2 3 = 3", "lay 1 2 = 4", "lay 15 1 = 5", "end = 5"};
        runs.run("promise 16: it ends in the fourth time over, all is as before", Runs.with(rows, "carry 4 = 2 ! 2",
            "tell 9 6 = 0", "acts = 5", "carry 3 = 9", "tell 9 6 = 3"));
        runs.run("promise 16: it ends in the second time over", "make 0 0 0 = 0", "make 9 9 0 = 1", "begin = 1",
            "play 9 0 = 1", "play 0 0 = 2", "lay 5 0 = 3", "end = 3", "carry 2 = 2 ! 2", "tell 9 6 = 0", "tell 0 0 = 0",
            "carry 1 = 1", "carry 1 = 2 ! 2", "tell 9 6 = 1", "acts = 3");
    }

    private static void carryEndsByEachCall(Runs runs) {
        String[][] lines = {{"make 16 0 0", "1"}, {"make 0 12 0", "1"}, {"make 0 0 13", "1"}, {"lay 0 16", "1"},
            {"plug 16 0 0", "1"}, {"plug 5 0 0", "2"}, {"plug 0 0 0", "3"}, {"plug 1 2 0", "4"}, {"plug 1 0 0", "5"},
            {"pull 1 0 16", "1"}, {"pull 5 0 0", "2"}, {"pull 2 0 0", "3"}, {"pull 1 2 0", "4"},
            {"copy 0 0 16 0 0", "1"}, {"copy 1 0 5 0 0", "2"}, {"copy 1 0 2 0 0", "3"}, {"copy 2 0 2 0 3", "4"},
            {"copy 3 0 1 0 2", "5"}, {"copy 3 1 1 0 1", "5"}, {"write 16 0 0", "1"}, {"write 5 0 0", "2"},
            {"write 1 0 0", "3"}, {"write 2 -1 0", "4"}, {"knob 0 1001", "1"}, {"knob 5 0", "2"}, {"knob 1 0", "3"},
            {"play 16 0", "1"}, {"play 5 0", "2"}, {"play 2 0", "3"}, {"run 0 16", "1"}, {"run 0 5", "2"},
            {"run 0 1", "3"}, {"ticks 0 9", "1"}, {"ticks 5 8", "2"}, {"ticks 0 8", "3"}, {"rest 16", "1"},
            {"rest 5", "2"}, {"rest 2", "3"}, {"when 0 25", "1"}};
        for (String[] line : lines) {
            runs.run("promise 16: WHY is that line's: " + line[0], "make 0 9 0 = 0", "make 1 20 2 = 1",
                "make 2 13 2 = 2", "make 3 17 2 = 3", "make 4 8 0 = 4", "plug 3 0 4 = 0", "plug 3 1 0 = 0", "begin = 1",
                "play 0 3 = 1", "run 4 2 = 2", line[0] + " = 3", "end = 3", "carry 1 = 3 ! " + line[1],
                "why = " + line[1] + " ! " + line[1], "tell 0 6 = 0", "tell 4 3 = 0", "take 1 20 0 = 0 ! 2", "acts = 7",
                "make 7 0 0 = 5");
        }
        List<String> rows = new ArrayList<>();
        for (int n = 0; n < 59; n++) {
            rows.add("make 0 13 0 = " + n);
        }
        runs.run("promise 16: WHY is that line's: no room", Runs.with(rows, "begin = 1", "make 1 0 0 = 1",
            "make 2 0 0 = 2", "end = 2", "carry 1 = 2 ! 6", "tell 1 0 = 0 ! 2", "make 3 0 0 = 59", "carry 1 = 1 ! 6"));
    }

    private static void undo(Runs runs) {
        runs.run("promise 17: there is no ACT to be taken back", "undo = 0 ! 7", "play 0 0 = 0 ! 2", "undo = 0 ! 7",
            "make 0 0 0 = 0", "undo = 0", "undo = 0 ! 7", "undo = 0 ! 7");
        runs.run("promise 17: RECORDING", "make 0 0 0 = 0", "begin = 1", "undo = 0 ! 7", "lay 0 1 = 1", "undo = 0 ! 7",
            "end = 1", "undo = 0", "tell 0 0 = 0 ! 2");
        runs.run("promise 17: how many ACTS can still be taken back", "lay 0 0 = 0", "lay 0 0 = 0", "lay 0 0 = 0",
            "undo = 2", "lay 0 0 = 0", "undo = 2", "undo = 1", "undo = 0");
        runs.run("promise 17: a carry is taken back whole", "make 0 9 0 = 0", "begin = 1", "play 0 0 = 1",
            "make 1 0 0 = 2", "make 1 13 2 = 3", "end = 3", "carry 4 = 46", "tell 1 1 = 8", "undo = 1", "tell 0 6 = 0",
            "tell 1 0 = 0 ! 2", "make 1 0 0 = 1");
        runs.run("promise 17: behind a carry that ended early the ACT ahead of it is taken back", "make 0 9 0 = 0",
            "play 0 0 = 1", "begin = 1", "play 0 0 = 1", "rest 5 = 2", "end = 2", "carry 1 = 2 ! 2", "undo = 1",
            "tell 0 6 = 0", "tell 0 0 = 9");
        runs.run("promise 17: a thing made, plugged and filled is taken back in the other order", "make 0 16 2 = 0",
            "make 1 13 2 = 1", "plug 0 1 1 = 0", "write 1 1 9 = 1", "at 0 1 1 = 9", "undo = 3", "at 0 1 1 = 0",
            "undo = 2", "at 0 1 1 = 0 ! 2", "undo = 1", "tell 1 0 = 0 ! 2", "undo = 0", "tell 0 0 = 0 ! 2");
    }

    private static void acts(Runs runs) {
        runs.run("promise 18: how many ACTS can be taken back", "acts = 0", "lay 0 0 = 0", "acts = 1", "lay 0 0 = 0",
            "acts = 2", "undo = 1", "acts = 1", "undo = 0", "acts = 0", "undo = 0 ! 7", "acts = 0");
    }

    /** An object is used for at most 512 calls: so many ACTS can be kept, and all of them taken back. */
    private static void mostCalls(Runs runs) {
        PatchHall hall = new PatchHall();
        hall.make(0, 9, 0);
        for (int n = 1; n < 511; n++) {
            runs.equal("the answers of 510 plays", hall.play(0, 0), n);
        }
        runs.equal("promise 18: as the 512th call", hall.acts(), 511);
        hall = new PatchHall();
        hall.make(0, 9, 0);
        for (int n = 1; n < 511; n++) {
            hall.play(0, 0);
        }
        runs.equal("promise 9: as the 512th call", hall.play(0, 0), 511);
        hall = new PatchHall();
        for (int n = 1; n <= 511; n++) {
            hall.carry(4);
        }
        runs.equal("promise 17: as the 512th call", hall.undo(), 510);
        hall = new PatchHall();
        for (int n = 0; n < 256; n++) {
            runs.equal("promise 2: 256 things made, one at a time", hall.make(n % 16, n % 12, 0), 0);
            runs.equal("promise 17: and each taken back", hall.undo(), 0);
        }
    }
}
