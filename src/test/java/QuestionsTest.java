/** Promises 19 to 25. */
public final class QuestionsTest {
    public static void main(String[] args) {
        Runs runs = new Runs("QuestionsTest");
        ask(runs);
        takePart(runs);
        takeFromRow(runs);
        size(runs);
        read(runs);
        at(runs);
        tell(runs);
        why(runs);
        runs.end();
    }

    private static void ask(Runs runs) {
        runs.run("promise 19: ask", "make 15 10 0 = 0", "ask 15 10 = 1", "ask 15 9 = 1", "ask 15 12 = 1", "ask 15 0 = 1",
            "ask 15 11 = 0", "ask 0 0 = 0", "ask 0 24 = 0", "acts = 1");
        runs.run("promise 19: reason 1", "make 0 0 0 = 0", "ask -1 0 = 0 ! 1", "ask 16 0 = 0 ! 1", "ask 0 -1 = 0 ! 1",
            "ask 0 25 = 0 ! 1", "ask 0 32 = 0 ! 1", "ask 0 0 = 1");
    }

    private static void takePart(Runs runs) {
        runs.run("promise 20: RIPPLE", "make 0 4 0 = 0", "knob 0 -20 = 8", "play 0 24 = 21", "play 0 1 = 1",
            "take 0 0 -1 = 2", "take 0 1 99 = 26", "take 0 2 0 = 20", "take 0 3 0 = 1", "take 0 4 0 = 1",
            "take 0 5 0 = 0 ! 3");
        runs.run("promise 20: HALL", "make 0 8 0 = 0", "play 0 16 = 16", "take 0 0 0 = 1", "take 0 5 0 = 18",
            "take 0 6 0 = 18", "take 0 7 0 = 18", "take 0 8 0 = 18", "take 0 1 0 = 0 ! 3");
        runs.run("promise 20: CLOCK", "make 0 10 0 = 0", "play 0 0 = 1", "ticks 0 2 = 6", "take 0 0 0 = 1",
            "take 0 9 0 = 4", "take 0 10 0 = 4", "take 0 12 0 = 10", "take 0 11 0 = 0 ! 3");
        runs.run("promise 20: METER", "make 0 11 0 = 0", "ticks 0 3 = 6", "take 0 11 0 = 5", "take 0 12 0 = 11",
            "take 0 0 0 = 0 ! 3");
        runs.run("promise 20: FOLD and CLIP", "make 0 3 0 = 0", "play 0 99 = 8", "take 0 3 0 = 0", "take 0 4 0 = 0 ! 3",
            "take 0 1 0 = 13", "make 0 2 0 = 1", "knob 0 -7 = 8", "take 0 2 0 = 7", "take 0 3 0 = 0 ! 3");
        runs.run("promise 20: reasons", "make 0 0 0 = 0", "take -1 0 0 = 0 ! 1", "take 16 0 0 = 0 ! 1",
            "take 0 -1 0 = 0 ! 1", "take 0 25 0 = 0 ! 1", "take 9 25 0 = 0 ! 1", "take 9 0 0 = 0 ! 2",
            "take 9 13 -1 = 0 ! 2", "take 0 13 -1 = 0 ! 3", "take 0 13 0 = 0 ! 3", "acts = 1");
    }

    private static void takeFromRow(Runs runs) {
        runs.run("promise 20: number rows", "make 0 13 2 = 0", "make 1 14 2 = 1", "make 2 15 2 = 2",
            "write 0 1 -1 = 1", "write 1 1 -1 = 1", "write 2 1 -1 = 1", "take 0 13 1 = -1", "take 1 14 1 = -1",
            "take 2 15 1 = -1", "take 2 15 0 = 0", "write 2 0 9000000000 = 1", "take 2 15 0 = 9000000000",
            "take 0 13 2 = 0 ! 4", "take 1 14 -1 = 0 ! 4", "take 2 15 2147483647 = 0 ! 4", "take 0 14 0 = 0 ! 3");
        runs.run("promise 20: rows", "make 0 19 2 = 0", "make 1 0 0 = 1", "make 2 3 0 = 2", "plug 0 1 2 = 0",
            "take 0 19 1 = 2", "take 0 18 1 = 2", "take 0 17 1 = 2", "take 0 17 0 = 0 ! 2", "take 0 19 2 = 0 ! 4",
            "take 0 20 1 = 0 ! 3", "make 3 22 1 = 3", "make 4 10 0 = 4", "plug 3 0 4 = 0", "take 3 21 0 = 4",
            "take 3 22 0 = 4", "take 3 17 0 = 4");
        runs.run("promise 20: the thing of NUMBER 0", "make 0 7 0 = 0", "make 1 20 1 = 1", "plug 1 0 0 = 0",
            "take 1 20 0 = 0", "take 1 17 0 = 0");
        runs.run("promise 20: rows of rows", "make 0 16 2 = 0", "make 1 13 7 = 1", "plug 0 0 1 = 0", "take 0 16 0 = 7",
            "take 0 16 1 = 0 ! 2", "take 0 16 2 = 0 ! 4", "make 2 24 2 = 2", "make 3 19 0 = 3", "plug 2 0 3 = 0",
            "take 2 24 0 = 0", "take 2 23 0 = 0", "take 2 23 1 = 0 ! 2", "take 2 24 -1 = 0 ! 4", "make 4 19 11 = 4",
            "plug 2 1 4 = 0", "take 2 23 1 = 11", "take 2 24 1 = 11");
    }

    private static void size(Runs runs) {
        for (int kind = 13; kind < 25; kind++) {
            runs.run("promise 21: size of " + kind, "make 3 " + kind + " " + (kind - 12) + " = 0",
                "size 3 = " + (kind - 12), "make 3 " + kind + " 0 = 1", "size 3 = 0");
        }
        for (int kind = 0; kind < 12; kind++) {
            runs.run("promise 21: no size of " + kind, "make 3 " + kind + " 5 = 0", "size 3 = 0 ! 3");
        }
        runs.run("promise 21: reasons", "size -1 = 0 ! 1", "size 16 = 0 ! 1", "size 0 = 0 ! 2");
    }

    private static void read(Runs runs) {
        runs.run("promise 22: read", "make 0 13 12 = 0", "write 0 11 -1 = 1", "read 0 11 = -1", "read 0 0 = 0",
            "read 0 12 = 0 ! 4", "read 0 -1 = 0 ! 4", "acts = 2");
        runs.run("promise 22: reasons", "make 0 0 0 = 0", "make 1 17 2 = 1", "make 2 16 2 = 2", "read -1 0 = 0 ! 1",
            "read 16 -1 = 0 ! 1", "read 9 -1 = 0 ! 2", "read 0 -1 = 0 ! 3", "read 1 0 = 0 ! 3", "read 2 0 = 0 ! 3");
    }

    private static void at(Runs runs) {
        runs.run("promise 23: a table", "make 0 16 3 = 0", "make 1 13 2 = 1", "write 1 1 -1 = 1", "plug 0 2 1 = 0",
            "at 0 2 1 = -1", "at 0 2 0 = 0", "at 0 2 2 = 0 ! 4", "at 0 2 -1 = 0 ! 4", "at 0 1 -1 = 0 ! 2",
            "at 0 3 0 = 0 ! 4", "at 0 -1 0 = 0 ! 4", "acts = 4");
        for (int kind : new int[] {23, 24}) {
            runs.run("promise 23: a board " + kind, "make 0 2 0 = 0", "make 1 4 0 = 1", "make 2 19 3 = 2",
                "make 3 " + kind + " 2 = 3", "plug 2 0 0 = 0", "plug 2 2 1 = 0", "plug 3 1 2 = 0", "at 3 1 0 = 0",
                "at 3 1 2 = 1", "at 3 1 1 = 0 ! 2", "at 3 1 3 = 0 ! 4", "at 3 0 0 = 0 ! 2", "at 3 2 0 = 0 ! 4");
        }
        runs.run("promise 23: reasons", "make 0 17 2 = 0", "make 1 13 2 = 1", "make 2 0 0 = 2", "make 3 21 1 = 3",
            "at -1 0 0 = 0 ! 1", "at 16 -1 -1 = 0 ! 1", "at 9 -1 -1 = 0 ! 2", "at 0 -1 -1 = 0 ! 3", "at 1 0 0 = 0 ! 3",
            "at 2 0 0 = 0 ! 3", "at 3 0 0 = 0 ! 3");
    }

    private static void tell(Runs runs) {
        runs.run("promise 24: HALL", "make 1 0 0 = 0", "make 0 8 0 = 1", "play 0 16 = 16", "knob 0 3 = 8",
            "tell 0 0 = 8", "tell 0 1 = 1", "tell 0 2 = 3", "tell 0 3 = 1", "tell 0 4 = 0", "tell 0 5 = 18",
            "tell 0 6 = 0", "tell 0 7 = 8", "tell 0 8 = 16", "tell 0 9 = 0");
        runs.run("promise 24: RIPPLE", "make 0 4 0 = 0", "play 0 99 = 30", "tell 0 4 = 1", "tell 0 5 = 0", "tell 0 6 = 0",
            "tell 0 7 = 14", "tell 0 8 = 0", "tell 0 9 = 0");
        runs.run("promise 24: METER", "make 0 11 0 = 0", "ticks 0 3 = 6", "tell 0 0 = 11", "tell 0 2 = 0", "tell 0 3 = 0",
            "tell 0 4 = 0", "tell 0 5 = 0", "tell 0 6 = 0", "tell 0 7 = 0", "tell 0 8 = 0", "tell 0 9 = 5");
        for (int kind = 13; kind < 25; kind++) {
            runs.run("promise 24: a row " + kind, "make 1 0 0 = 0", "make 0 " + kind + " 12 = 1", "tell 0 0 = " + kind,
                "tell 0 1 = 1", "tell 0 2 = 0", "tell 0 3 = 0", "tell 0 4 = 0", "tell 0 5 = 0", "tell 0 6 = 0",
                "tell 0 7 = 0", "tell 0 8 = 0", "tell 0 9 = 0");
        }
        runs.run("promise 24: reasons", "make 0 0 0 = 0", "tell -1 0 = 0 ! 1", "tell 16 0 = 0 ! 1", "tell 0 -1 = 0 ! 1",
            "tell 0 10 = 0 ! 1", "tell 9 10 = 0 ! 1", "tell 9 9 = 0 ! 2", "acts = 1");
    }

    private static void why(Runs runs) {
        runs.run("promise 25: why", "play 16 0 = 0 ! 1", "why = 1 ! 1", "why = 1 ! 1", "play 0 0 = 0 ! 2", "why = 2 ! 2",
            "make 0 13 1 = 0", "why = 0", "play 0 0 = 0 ! 3", "why = 3 ! 3", "read 0 1 = 0 ! 4", "why = 4 ! 4",
            "make 1 17 1 = 1", "plug 1 0 0 = 0 ! 5", "why = 5 ! 5", "end = 0 ! 7", "why = 7 ! 7", "undo = 1", "why = 0",
            "end = 0 ! 7", "begin = 1", "why = 0", "lay 99 99 = 1", "why = 0", "begin = 0 ! 7", "lay 0 1 = 2", "why = 0");
        String[] cleared = {"acts = 1", "ask 5 0 = 0", "take 0 0 0 = 0", "tell 0 2 = 8", "carry 1 = 0", "lay 0 1 = 1",
            "knob 0 1 = 8", "play 0 1 = 1", "rest 0 = 1", "begin = 1", "undo = 0"};
        for (String call : cleared) {
            runs.run("promise 25: 0 behind " + call, "make 0 0 0 = 0", "size 0 = 0 ! 3", call, "why = 0");
        }
    }
}
