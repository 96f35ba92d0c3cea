/** What is UNDER what, and what fits where, for all kinds there are. */
public final class KindsTest {
    /** By kind, all kinds that a thing of it is UNDER; nothing is made of TICKER. */
    private static final int[][] UNDER = {
        {0}, {0, 1}, {0, 1, 2}, {0, 1, 2, 3}, {0, 1, 2, 3, 4},
        {0, 5}, {0, 5, 6}, {0, 5, 6, 7}, {0, 5, 6, 7, 8},
        {0, 9}, {0, 9, 10, 12}, {11, 12}, null,
        {13}, {14}, {15}, {16},
        {17}, {17, 18}, {17, 18, 19}, {17, 20}, {21}, {17, 21, 22}, {23}, {23, 24},
    };
    /** By kind of row, from TABLE on, the kinds of things that fit. */
    private static final int[][] FITTING = {
        {13}, {0, 1, 2, 3, 4, 5, 6, 7, 8, 9, 10}, {1, 2, 3, 4}, {2, 3, 4}, {7, 8}, {10, 11}, {10},
        {17, 18, 19, 20, 22}, {19},
    };

    public static void main(String[] args) {
        Runs runs = new Runs("KindsTest");
        for (int kind = 0; kind < 25; kind++) {
            if (kind != 12) {
                kindIsUnder(runs, kind);
                kindFits(runs, kind);
            }
        }
        for (int row = 16; row < 25; row++) {
            runs.run("NOTHING fits in " + row, "make 0 " + row + " 1 = 0", "plug 0 0 9 = 0",
                "copy 0 0 0 0 1 = 1", "take 0 " + row + " 0 = 0 ! 2");
        }
        runs.end();
    }

    private static boolean isIn(int[] kinds, int kind) {
        for (int k : kinds) {
            if (k == kind) {
                return true;
            }
        }
        return false;
    }

    private static void kindIsUnder(Runs runs, int kind) {
        for (int k = 0; k < 25; k++) {
            boolean under = isIn(UNDER[kind], k);
            runs.run(kind + " under " + k, "make 5 " + kind + " 0 = 0", "ask 5 " + k + " = " + (under ? 1 : 0));
            if (!under) {
                runs.run(kind + " taken as " + k, "make 5 " + kind + " 0 = 0", "take 5 " + k + " 0 = 0 ! 3");
            }
        }
    }

    private static void kindFits(Runs runs, int kind) {
        for (int row = 16; row < 25; row++) {
            boolean fits = isIn(FITTING[row - 16], kind);
            runs.run(kind + " plugged in " + row, "make 0 " + row + " 2 = 0", "make 1 " + kind + " 3 = 1",
                "plug 0 1 1 = 0 " + (fits ? "" : "! 5"), "pull 0 1 2 = " + (fits ? 1 : 0),
                "tell 2 1 = " + (fits ? "1" : "0 ! 2"));
        }
    }
}
