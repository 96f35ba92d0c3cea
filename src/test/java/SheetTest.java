/** Promises 13 to 16: recording a sheet and carrying it out. */
public final class SheetTest {
    private static final String[] RECORDED = {"make -1 99 99", "lay 16 -1", "plug 0 0 99", "pull 0 0 -1",
        "copy -1 0 0 0 0", "write 16 0 9", "knob 0 5000", "play -1 1", "run 0 77", "ticks 0 9", "rest -1", "when 99 99"};

    public static void main(String[] args) {
        Runs runs = new Runs("SheetTest");
        when(runs);
        begin(runs);
        end(runs);
        recording(runs);
        carry(runs);
        carryWhen(runs);
        carryEndsEarly(runs);
        carryRefused(runs);
        everyLine(runs);
        runs.end();
    }

    private static void when(Runs runs) {
        runs.run("promise 13: when", "make 0 0 0 = 0", "when 0 0 = 0 ! 7", "when -1 99 = 0 ! 7", "acts = 1",
            "begin = 1", "when 0 0 = 1", "when -1 99 = 2", "acts = 1", "end = 2", "when 0 0 = 0 ! 7");
    }

    private static void begin(Runs runs) {
        runs.run("promise 14: begin", "begin = 1", "begin = 0 ! 7", "lay 0 1 = 1", "begin = 0 ! 7", "lay 0 1 = 2",
            "end = 2", "begin = 1", "lay 0 1 = 1", "end = 1", "begin = 1", "end = 0", "acts = 0");
    }

    private static void end(Runs runs) {
        runs.run("promise 15: end", "end = 0 ! 7", "begin = 1", "end = 0", "end = 0 ! 7", "make 0 0 0 = 0",
            "tell 0 1 = 0");
    }

    private static void recording(Runs runs) {
        for (String call : RECORDED) {
            runs.run("recording looks at no reason of " + call, "begin = 1", call + " = 1", call + " = 2", "acts = 0",
                "end = 2", "acts = 0", "carry 1 = 1 ! 1");
        }
        String[] rows = new String[2 + RECORDED.length + 16];
        rows[0] = "begin = 1";
        for (int n = 1; n <= 16; n++) {
            rows[n] = "lay 0 1 = " + n;
        }
        for (int n = 0; n < RECORDED.length; n++) {
            rows[17 + n] = RECORDED[n] + " = 0 ! 6";
        }
        rows[17 + RECORDED.length] = "end = 16";
        runs.run("recording: reason 6", rows);
        runs.run("recording: all other calls are as ever", "make 0 13 2 = 0", "write 0 1 7 = 1", "begin = 1",
            "write 0 0 5 = 1", "read 0 0 = 0", "read 0 1 = 7", "size 0 = 2", "ask 0 13 = 1", "take 0 13 1 = 7",
            "tell 0 0 = 13", "at 0 0 0 = 0 ! 3", "acts = 2", "undo = 0 ! 7", "carry 0 = 0 ! 1", "carry 5 = 0 ! 1",
            "carry 1 = 0 ! 7", "end = 1", "read 0 0 = 0", "carry 1 = 1", "read 0 0 = 5");
    }

    private static void carry(Runs runs) {
        runs.run("promise 16: carry", "begin = 1", "make 0 9 0 = 1", "play 0 10 = 2", "play 0 10 = 3", "end = 3",
            "carry 1 = 23", "acts = 1", "tell 0 6 = 2", "carry 4 = 102", "acts = 2", "tell 0 1 = 4", "undo = 1",
            "tell 0 1 = 0", "tell 0 6 = 2", "undo = 0", "tell 0 0 = 0 ! 2");
        runs.run("promise 16: the empty sheet", "carry 1 = 0", "carry 4 = 0", "acts = 2", "undo = 1");
        runs.run("promise 16: the sum wraps", "make 0 0 0 = 0", "begin = 1", "play 0 2147483647 = 1",
            "play 0 2147483647 = 2", "end = 2", "carry 1 = -2", "carry 2 = -4");
        runs.run("promise 16: the sheet stays, and is not taken back", "make 0 9 0 = 0", "begin = 1", "play 0 0 = 1",
            "end = 1", "carry 1 = 1", "undo = 1", "undo = 0", "carry 1 = 1 ! 2", "make 0 9 0 = 0", "carry 2 = 3",
            "carry 1 = 3");
    }

    private static void carryWhen(Runs runs) {
        runs.run("promise 16: when it is so", "make 0 2 0 = 0", "begin = 1", "when 0 1 = 1", "play 0 5 = 2",
            "play 0 6 = 3", "end = 3", "carry 1 = 12", "tell 0 3 = 2");
        runs.run("promise 16: when it isn't so", "make 0 2 0 = 0", "begin = 1", "when 0 3 = 1", "play 0 5 = 2",
            "play 0 6 = 3", "end = 3", "carry 2 = 12", "tell 0 3 = 2");
        runs.run("promise 16: when a shelf holds NOTHING", "begin = 1", "when 0 0 = 1", "play 0 5 = 2", "make 0 0 0 = 3",
            "end = 3", "carry 1 = 0", "tell 0 3 = 0", "carry 1 = 7", "tell 0 1 = 1");
        runs.run("promise 16: when at the end reaches no further", "make 0 9 0 = 0", "begin = 1", "play 0 0 = 1",
            "when 0 10 = 2", "end = 2", "carry 3 = 6", "tell 0 6 = 3");
        runs.run("promise 16: a line passed over is not looked at", "make 0 9 0 = 0", "begin = 1", "when 0 10 = 1",
            "play 99 0 = 2", "play 0 1 = 3", "end = 3", "carry 1 = 2");
        runs.run("promise 16: a when passed over passes nothing over", "make 0 9 0 = 0", "begin = 1", "when 0 10 = 1",
            "when 0 10 = 2", "play 0 1 = 3", "end = 3", "carry 1 = 2", "carry 1 = 3");
        runs.run("promise 16: a when passed over may be wrong", "begin = 1", "when 0 0 = 1", "when -1 0 = 2", "end = 2",
            "carry 4 = 0");
        runs.run("promise 16: TICKER is a kind to be asked for", "make 0 11 0 = 0", "begin = 1", "when 0 12 = 1",
            "end = 1", "carry 4 = 4");
        for (String wrong : new String[] {"-1 0", "16 0", "0 -1", "0 25"}) {
            runs.run("promise 16: reason 1 of when " + wrong, "begin = 1", "lay 0 0 = 1", "when " + wrong + " = 2",
                "end = 2", "carry 1 = 2 ! 1", "acts = 0");
        }
        runs.run("promise 16: another line's 0 passes nothing over", "begin = 1", "lay 0 0 = 1", "make 0 9 0 = 2",
            "play 0 5 = 3", "end = 3", "carry 1 = 6");
    }

    private static void carryEndsEarly(Runs runs) {
        runs.run("promise 16: all is as before", "make 0 9 0 = 0", "make 1 17 2 = 1", "make 2 13 2 = 2", "begin = 1",
            "knob 0 3 = 1", "play 0 4 = 2", "plug 1 0 0 = 3", "run 1 2 = 4", "make 0 11 0 = 5", "ticks 0 4 = 6",
            "lay 2 3 = 7", "rest 5 = 8", "end = 8", "carry 2 = 8 ! 2", "acts = 3", "tell 0 0 = 9", "tell 0 1 = 0",
            "tell 0 2 = 8", "tell 0 3 = 0", "tell 0 6 = 0", "take 1 17 0 = 0 ! 2", "read 2 0 = 0", "read 2 1 = 0",
            "tell 3 0 = 0 ! 2", "make 4 0 0 = 3", "acts = 4");
        runs.run("promise 16: in a later time over", "make 0 9 0 = 0", "begin = 1", "play 0 1 = 1", "rest 2 = 2",
            "end = 2", "lay 0 2 = 1", "carry 2 = 6", "begin = 1", "play 0 1 = 1", "when 0 9 = 2", "rest 2 = 3",
            "lay 5 2 = 4", "end = 4", "carry 2 = 3 ! 2", "acts = 3", "tell 0 6 = 0", "tell 2 0 = 9", "carry 1 = 4",
            "tell 0 6 = 0");
        runs.run("promise 16: a copy's 5, too", "make 0 17 2 = 0", "make 1 19 2 = 1", "make 2 2 0 = 2", "make 3 0 0 = 3",
            "plug 0 0 2 = 0", "plug 0 1 3 = 0", "begin = 1", "lay 0 7 = 1", "copy 0 0 1 0 2 = 2", "end = 2",
            "carry 1 = 2 ! 5", "take 1 19 0 = 0 ! 2", "tell 7 0 = 0 ! 2", "acts = 6", "copy 0 0 1 0 2 = 1 ! 5",
            "acts = 7");
        String[][] reasons = {{"make 0 12 0", "1"}, {"play 9 0", "2"}, {"play 1 0", "3"}, {"write 1 2 0", "4"},
            {"plug 2 0 0", "5"}, {"copy 1 2 1 0 1", "4"}, {"knob 0 1001", "1"}, {"ticks 0 1", "3"}, {"pull 2 1 0", "4"},
            {"run 0 0", "3"}, {"lay 0 16", "1"}, {"rest 1", "3"}};
        for (String[] reason : reasons) {
            runs.run("promise 16: WHY of " + reason[0], "make 0 0 0 = 0", "make 1 13 2 = 1", "make 2 19 1 = 2",
                "begin = 1", "play 0 1 = 1", reason[0] + " = 2", "end = 2", "carry 1 = 2 ! " + reason[1],
                "tell 0 3 = 0", "acts = 3");
        }
        String[] rows = new String[66];
        for (int n = 0; n < 58; n++) {
            rows[n] = "make 0 0 0 = " + n;
        }
        String[] last = {"begin = 1", "make 1 0 0 = 1", "end = 1", "carry 3 = 1 ! 6", "tell 1 0 = 0 ! 2", "carry 2 = 117",
            "carry 1 = 1 ! 6", "acts = 59"};
        System.arraycopy(last, 0, rows, 58, last.length);
        runs.run("promise 16: no room for the third", rows);
    }

    private static void carryRefused(Runs runs) {
        runs.run("promise 16: reasons ahead", "carry 0 = 0 ! 1", "carry 5 = 0 ! 1", "carry -2147483648 = 0 ! 1",
            "begin = 1", "carry 0 = 0 ! 1", "carry 4 = 0 ! 7", "end = 0", "acts = 0", "carry 4 = 0", "acts = 1");
    }

    private static void everyLine(Runs runs) {
        runs.run("promise 16: every call as a line, with its arguments", "begin = 1", "make 0 17 3 = 1",
            "make 1 7 0 = 2", "plug 0 2 1 = 3", "pull 0 2 5 = 4", "copy 0 2 0 1 1 = 5", "make 2 15 2 = 6",
            "write 2 1 9000000000 = 7", "knob 5 16 = 8", "make 3 13 2 = 9", "write 3 0 5 = 10", "run 0 3 = 11",
            "play 1 1 = 12", "make 4 10 0 = 13", "ticks 4 2 = 14", "lay 4 6 = 15", "rest 6 = 16", "end = 16",
            "carry 1 = 36", "take 0 17 0 = 0 ! 2", "take 0 17 1 = 1", "take 0 17 2 = 1", "read 2 1 = 9000000000",
            "tell 1 2 = 16", "read 3 0 = 10", "read 3 1 = 5", "tell 1 5 = 1", "tell 1 3 = 5", "tell 6 6 = 100",
            "acts = 1", "undo = 0", "tell 6 0 = 0 ! 2");
    }
}
