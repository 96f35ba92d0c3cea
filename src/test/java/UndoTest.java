import java.util.ArrayList;
import java.util.List;

/** Promises 17 and 18: taking back, one act or all of them. */
public final class UndoTest {
    private static final String[] ACTS = {"make 0 23 2 = 0", "make 1 17 3 = 1", "make 2 4 0 = 2", "make 3 8 0 = 3",
        "make 4 10 0 = 4", "make 5 11 0 = 5", "make 6 13 3 = 6", "make 7 21 2 = 7", "make 8 19 2 = 8", "knob 3 -20 = 8",
        "plug 1 0 2 = 0", "plug 1 1 3 = 0", "plug 1 2 4 = 0", "plug 0 1 1 = 0", "plug 7 0 4 = 0", "plug 7 1 5 = 0",
        "write 6 0 50 = 1", "write 6 2 -9000000000 = 1", "play 1 90 = 29", "play 0 -5 = -42", "run 0 6 = 3",
        "ticks 7 4 = 64", "ticks 5 2 = 217", "rest 4 = 1", "copy 1 0 8 0 2 = 1 ! 5", "copy 6 0 6 1 2 = 2", "lay 5 4 = 1",
        "pull 8 0 2 = 1", "plug 8 0 9 = 1", "rest 0 = 3", "lay 9 0 = 0", "make 0 0 0 = 9"};

    public static void main(String[] args) {
        Runs runs = new Runs("UndoTest");
        runs.run("promise 17: reasons", "undo = 0 ! 7", "make 0 0 0 = 0", "begin = 1", "undo = 0 ! 7", "end = 0",
            "undo = 0", "undo = 0 ! 7", "begin = 1", "undo = 0 ! 7", "tell 0 0 = 0 ! 2");
        runs.run("promise 17: WHY and the sheet are not taken back", "begin = 1", "make 0 9 0 = 1", "end = 1",
            "carry 1 = 0", "begin = 1", "play 0 1 = 1", "end = 1", "undo = 0", "carry 1 = 1 ! 2", "make 0 0 0 = 0",
            "carry 1 = 1");
        runs.run("promise 17: refused calls and questions are no acts", "make 0 0 0 = 0", "play 0 1 = 1",
            "play 1 1 = 0 ! 2", "tell 0 3 = 1", "ask 0 0 = 1", "size 0 = 0 ! 3", "begin = 1", "rest 0 = 1", "end = 1",
            "undo = 1", "tell 0 3 = 0", "undo = 0");
        runs.run("promise 17: things that were taken back are no more", "make 0 13 5 = 0", "make 1 17 2 = 1",
            "write 0 3 7 = 1", "undo = 2", "undo = 1", "undo = 0", "make 1 17 4 = 0", "tell 1 0 = 17", "tell 1 2 = 0",
            "take 1 17 3 = 0 ! 2", "make 0 13 5 = 1", "read 0 3 = 0");
        runs.run("promise 17: acts that changed nothing are taken back, too", "lay 0 0 = 0", "lay 1 0 = 0", "carry 3 = 0",
            "acts = 3", "undo = 2", "undo = 1", "undo = 0", "undo = 0 ! 7");
        runs.run("promise 18: acts", "acts = 0", "make 0 0 0 = 0", "acts = 1", "make 0 0 99 = 0 ! 1", "acts = 1",
            "knob 0 8 = 8", "acts = 2", "begin = 1", "acts = 2", "play 0 0 = 1", "acts = 2", "end = 1", "acts = 2",
            "carry 4 = 0", "acts = 3", "undo = 2", "acts = 2");
        runs.run("promise 18: the WHY of acts", "play 0 0 = 0 ! 2", "acts = 0");
        oneByOne(runs);
        allInOne(runs);
        longRun(runs);
        runs.end();
    }

    /** Every act is taken back: behind each undo all looks as it did behind the act ahead. */
    private static void oneByOne(Runs runs) {
        PatchHall hall = new PatchHall();
        List<String> looks = new ArrayList<>();
        runs.run("the acts are done", ACTS);
        for (String act : ACTS) {
            looks.add(lookOf(hall));
            doAct(hall, act);
        }
        for (int n = ACTS.length - 1; n >= 0; n--) {
            runs.equal("promise 17: undo of " + ACTS[n], hall.undo(), n);
            runs.isTrue("promise 17: all as before " + ACTS[n], lookOf(hall).equals(looks.get(n)));
        }
        for (String act : ACTS) {
            doAct(hall, act);
        }
        runs.equal("promise 18: done again", hall.acts(), ACTS.length);
    }

    private static void allInOne(Runs runs) {
        PatchHall hall = new PatchHall();
        for (int n = 0; n < 16; n++) {
            doAct(hall, ACTS[n]);
        }
        String look = lookOf(hall);
        hall.begin();
        for (int n = 16; n < 24; n++) {
            doAct(hall, ACTS[n]);
        }
        hall.end();
        for (int times = 1; times <= 4; times++) {
            hall.carry(times);
            runs.equal("promise 16: carry of " + times + " is done", hall.why(), 0);
            runs.isTrue("promise 16: carry of " + times + " changes", !lookOf(hall).equals(look));
            runs.equal("promise 17: a carry is one act", hall.undo(), 16);
            runs.isTrue("promise 17: all as before carry of " + times, lookOf(hall).equals(look));
        }
    }

    private static void longRun(Runs runs) {
        PatchHall hall = new PatchHall();
        hall.make(0, 9, 0);
        for (int n = 1; n < 256; n++) {
            hall.play(0, 0);
        }
        runs.equal("promise 18: of a long run", hall.acts(), 256);
        for (int n = 255; n >= 1; n--) {
            runs.equal("promise 17: of a long run", hall.undo(), n);
        }
        runs.equal("promise 17: of a long run, COUNT", hall.tell(0, 6), 0);
    }

    private static void doAct(PatchHall hall, String act) {
        new Call(act.split("=")[0]).on(hall);
    }

    /** All that questions can tell of what lies on the shelves. */
    private static String lookOf(PatchHall hall) {
        StringBuilder look = new StringBuilder();
        for (int s = 0; s < 16; s++) {
            look.append('\n').append(s);
            for (int q = 0; q < 10; q++) {
                look.append(' ').append(hall.tell(s, q)).append('!').append(hall.why());
            }
            int kind = hall.tell(s, 0);
            for (int i = 0; i < hall.size(s); i++) {
                look.append(' ').append(hall.take(s, kind, i)).append('!').append(hall.why());
                for (int j = 0; j < 3; j++) {
                    look.append(' ').append(hall.at(s, i, j)).append('!').append(hall.why());
                }
            }
        }
        return look.toString();
    }
}
