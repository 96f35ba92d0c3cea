import java.lang.management.ManagementFactory;
import java.util.Random;

/**
 * No call throws, whatever it is given and however many there were; and the dearest runs of 512
 * calls stay small, as nothing that they make is ever cleared away.
 */
public final class RoomTest {
    private static final String[] NAMES = {"make 3", "lay 2", "plug 3", "pull 3", "copy 5", "write 3", "knob 2", "play 2",
        "run 2", "ticks 2", "rest 1", "when 2", "begin 0", "end 0", "carry 1", "undo 0", "acts 0", "ask 2", "take 3",
        "size 1", "read 2", "at 3", "tell 2", "why 0"};
    private static final int MOST_BYTES = 8 * 1024 * 1024;

    public static void main(String[] args) {
        Runs runs = new Runs("RoomTest");
        for (long seed = 1; seed <= 40; seed++) {
            wildRun(new Random(seed));
        }
        tooManyActs(runs);
        dearestRuns(runs);
        runs.end();
    }

    private static void wildRun(Random dice) {
        PatchHall hall = new PatchHall();
        for (int n = 0; n < 3000; n++) {
            String[] name = NAMES[n % 3 == 0 ? dice.nextInt(NAMES.length) : dice.nextInt(11)].split(" ");
            String[] words = new String[1 + Integer.parseInt(name[1])];
            words[0] = name[0];
            int most = n % 7 == 0 ? Integer.MAX_VALUE : 30;
            for (int a = 1; a < words.length; a++) {
                words[a] = Integer.toString(dice.nextInt(most) * (dice.nextInt(9) == 0 ? -1 : 1));
            }
            new Call(String.join(" ", words)).on(hall);
        }
    }

    /** Beyond the 512th call any answer is free, but not that more and more is kept. */
    private static void tooManyActs(Runs runs) {
        PatchHall hall = new PatchHall();
        hall.make(0, 9, 0);
        for (int n = 0; n < 2000; n++) {
            hall.play(0, 0);
        }
        runs.isTrue("what is kept has an end", hall.acts() <= 512);
    }

    private static void dearestRuns(Runs runs) {
        PatchHall warm = new PatchHall();
        warm.make(0, 0, 0);
        smallRun(runs, "carries that change the most parts and numbers", false);
        smallRun(runs, "carries that make the most things, each taken back", true);
    }

    private static void smallRun(Runs runs, String title, boolean areTakenBack) {
        com.sun.management.ThreadMXBean meter = (com.sun.management.ThreadMXBean) ManagementFactory.getThreadMXBean();
        long thread = Thread.currentThread().getId();
        long before = meter.getThreadAllocatedBytes(thread);
        PatchHall hall = new PatchHall();
        int calls = areTakenBack ? recordMakes(hall) : fill(hall);
        for (; calls < 512; calls++) {
            if (areTakenBack && hall.acts() > 0) {
                hall.undo();
            } else {
                hall.carry(4);
            }
        }
        long bytes = meter.getThreadAllocatedBytes(thread) - before;
        runs.equal(title + " are done", hall.why(), 0);
        runs.isTrue(title + " make " + bytes + " bytes", bytes < MOST_BYTES);
    }

    /** Four times over these lines make as many things, with as many places, as there can be. */
    private static int recordMakes(PatchHall hall) {
        hall.begin();
        for (int n = 0; n < 15; n++) {
            hall.make(n, 23, 12);
        }
        hall.end();
        return 17;
    }

    /** A board with as many different parts as there can be, and a sheet that runs numbers through it. */
    private static int fill(PatchHall hall) {
        int calls = 0;
        hall.make(0, 23, 12);
        for (int r = 0; r < 4; r++) {
            hall.make(1, 17, 12);
            hall.plug(0, r, 1);
            hall.plug(0, 4 + r, 1);
            hall.plug(0, 8 + r, 1);
            for (int i = 0; i < 12; i++) {
                hall.make(2, 8, 0);
                hall.plug(1, i, 2);
            }
            calls += 28;
        }
        for (int s = 3; s < 10; s++) {
            hall.make(s, 13, 12);
            hall.write(s, 0, 1000 + s);
        }
        hall.begin();
        for (int n = 0; n < 16; n++) {
            hall.run(0, 3 + n % 7);
        }
        hall.end();
        return calls + 33;
    }
}
