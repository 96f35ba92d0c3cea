/** The rules of the parts: TURN, LOAD, REST, TICK. */
public final class PartsTest {
    public static void main(String[] args) {
        Runs runs = new Runs("PartsTest");
        turns(runs);
        clips(runs);
        ripples(runs);
        echoes(runs);
        halls(runs);
        counters(runs);
        loads(runs);
        rests(runs);
        ticking(runs);
        runs.end();
    }

    private static void turns(Runs runs) {
        for (int kind : new int[] {0, 1, 5, 6}) {
            runs.run("TURN of " + kind + " is PLAIN's", "make 0 " + kind + " 0 = 0", "tell 0 2 = 8", "tell 0 3 = 0",
                "play 0 99 = 99", "play 0 -2147483648 = -2147483648", "tell 0 3 = 2", "tell 0 4 = 0", "tell 0 5 = 0",
                "tell 0 6 = 0", "tell 0 8 = 0", "tell 0 9 = 0");
        }
    }

    private static void clips(Runs runs) {
        for (int kind : new int[] {2, 3}) {
            runs.run("TURN of " + kind + " is CLIP's", "make 0 " + kind + " 0 = 0", "play 0 8 = 8", "play 0 9 = 8",
                "play 0 -8 = -8", "play 0 -9 = -8", "play 0 2147483647 = 8", "play 0 -2147483648 = -8",
                "knob 0 -3 = 8", "play 0 4 = 3", "play 0 -4 = -3", "play 0 2 = 2", "knob 0 0 = -3", "play 0 5 = 0",
                "play 0 -5 = 0", "tell 0 3 = 11", "tell 0 4 = 0");
        }
    }

    private static void ripples(Runs runs) {
        runs.run("TURN of RIPPLE", "make 0 4 0 = 0", "play 0 8 = 8", "tell 0 4 = 0", "play 0 9 = 8", "tell 0 4 = 1",
            "play 0 12 = 9", "play 0 -9 = -9", "play 0 -12 = -9", "play 0 -13 = -10", "tell 0 4 = 5",
            "tell 0 3 = 6");
        runs.run("TURN of RIPPLE by far numbers", "make 0 4 0 = 0", "knob 0 1000 = 8", "play 0 -2147483648 = -536871662",
            "play 0 2147483647 = 536871661", "tell 0 4 = 2");
    }

    private static void echoes(Runs runs) {
        runs.run("TURN of ECHO", "make 0 7 0 = 0", "play 0 5 = 5", "tell 0 5 = 5", "play 0 1 = 3", "tell 0 5 = 1",
            "knob 0 -1 = 8", "play 0 0 = -1", "tell 0 5 = 0", "tell 0 3 = 3", "tell 0 8 = 0");
        runs.run("TURN of ECHO wraps", "make 0 7 0 = 0", "play 0 2147483647 = 2147483647", "play 0 7 = 6",
            "play 0 1073741824 = 1073741827", "knob 0 6 = 8", "play 0 0 = -134217728");
    }

    private static void halls(Runs runs) {
        runs.run("TURN of HALL", "make 0 8 0 = 0", "play 0 16 = 16", "tell 0 5 = 18", "tell 0 8 = 16", "play 0 0 = 9",
            "tell 0 5 = 1", "tell 0 8 = 16", "tell 0 3 = 2");
        runs.run("TOP of HALL is at least 0", "make 0 8 0 = 0", "play 0 -9 = -9", "tell 0 8 = 0", "tell 0 5 = -11",
            "play 0 1 = -5", "tell 0 5 = 0");
    }

    private static void counters(Runs runs) {
        for (int kind : new int[] {9, 10}) {
            runs.run("TURN of " + kind + " is COUNTER's", "make 0 " + kind + " 0 = 0", "play 0 10 = 11",
                "play 0 10 = 12", "tell 0 6 = 2", "tell 0 3 = 2", "play 0 2147483647 = -2147483646");
        }
    }

    private static void loads(Runs runs) {
        int[][] loads = {{0, 2}, {1, 5}, {2, 13}, {3, 13}, {4, 13}, {5, 2}, {6, 6}, {7, 6}, {8, 6}, {9, 2}, {10, 2},
            {11, 0}, {13, 0}, {17, 0}, {24, 0}};
        for (int[] load : loads) {
            runs.run("LOAD of a new " + load[0], "make 0 " + load[0] + " 0 = 0", "tell 0 7 = " + load[1]);
        }
        runs.run("LOAD of CLIP", "make 0 2 0 = 0", "knob 0 -20 = 8", "tell 0 7 = 25", "play 0 99 = 20",
            "tell 0 7 = 25");
        runs.run("LOAD of RIPPLE", "make 0 4 0 = 0", "knob 0 -20 = 8", "play 0 24 = 21", "tell 0 7 = 26");
        runs.run("LOAD of ECHO", "make 0 7 0 = 0", "play 0 7 = 7", "tell 0 7 = 6");
        runs.run("LOAD of HALL", "make 0 8 0 = 0", "play 0 7 = 7", "tell 0 5 = 7", "tell 0 7 = 13", "play 0 -2 = 1",
            "tell 0 5 = -2", "tell 0 7 = 12");
        runs.run("LOAD of COUNTER", "make 0 9 0 = 0", "play 0 0 = 1", "play 0 0 = 2", "tell 0 7 = 4");
        runs.run("LOAD of CLOCK", "make 0 10 0 = 0", "ticks 0 2 = 4", "tell 0 7 = 5");
    }

    private static void rests(Runs runs) {
        for (int kind : new int[] {0, 1, 2, 3, 5, 6}) {
            runs.run("REST of " + kind, "make 0 " + kind + " 0 = 0", "knob 0 -7 = 8", "play 0 1 = 1", "tell 0 3 = 1",
                "rest 0 = 1", "tell 0 3 = 0", "tell 0 2 = -7");
        }
        runs.run("REST of RIPPLE", "make 0 4 0 = 0", "play 0 99 = 30", "tell 0 4 = 1", "rest 0 = 1", "tell 0 3 = 0",
            "tell 0 4 = 0", "tell 0 2 = 8");
        runs.run("REST of ECHO", "make 0 7 0 = 0", "play 0 9 = 9", "knob 0 -7 = 8", "rest 0 = 1", "tell 0 3 = 0",
            "tell 0 5 = 0", "tell 0 2 = -4", "rest 0 = 1", "tell 0 2 = -2");
        runs.run("REST of HALL leaves TOP", "make 0 8 0 = 0", "play 0 9 = 9", "rest 0 = 1", "tell 0 3 = 0",
            "tell 0 5 = 0", "tell 0 2 = 4", "tell 0 8 = 9");
        runs.run("REST of COUNTER", "make 0 9 0 = 0", "play 0 9 = 10", "rest 0 = 1", "tell 0 3 = 0", "tell 0 6 = 0",
            "tell 0 2 = 8");
        runs.run("REST of CLOCK", "make 0 10 0 = 0", "play 0 9 = 10", "rest 0 = 1", "tell 0 3 = 0", "tell 0 6 = 100",
            "play 0 1 = 102");
    }

    private static void ticking(Runs runs) {
        runs.run("TICK of CLOCK", "make 0 10 0 = 0", "ticks 0 1 = 1", "tell 0 6 = 1", "ticks 0 0 = 0", "tell 0 6 = 1",
            "ticks 0 3 = 13", "tell 0 6 = 7", "tell 0 3 = 0");
        runs.run("TICK of METER", "make 0 11 0 = 0", "ticks 0 1 = 0", "ticks 0 2 = 1", "tell 0 9 = 1", "ticks 0 0 = 0",
            "ticks 0 8 = 12280", "tell 0 9 = 8197");
        runs.run("TICK of METER wraps", "make 0 11 0 = 0", "ticks 0 8 = 2440", "ticks 0 8 = 16100680",
            "ticks 0 8 = -1737529080", "tell 0 9 = 1715694252");
    }
}
