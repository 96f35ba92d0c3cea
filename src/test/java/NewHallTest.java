/** Promise 1. */
public final class NewHallTest {
    public static void main(String[] args) {
        Runs runs = new Runs("NewHallTest");
        runs.equal("promise 1: WHY of a new object", new PatchHall().why(), 0);
        runs.run("promise 1: no acts", "acts = 0", "undo = 0 ! 7");
        runs.run("promise 1: an empty sheet", "carry 4 = 0", "acts = 1");
        runs.run("promise 1: not recording", "end = 0 ! 7", "when 0 0 = 0 ! 7", "make 3 0 0 = 0", "tell 3 1 = 0");
        for (int s = 0; s < 16; s++) {
            runs.run("promise 1: shelf " + s + " is empty", "tell " + s + " 0 = 0 ! 2", "size " + s + " = 0 ! 2",
                "ask " + s + " 0 = 0", "lay " + s + " 0 = 0");
        }
        runs.run("promise 1: two objects have nothing in common, one", "make 0 0 0 = 0", "begin = 1");
        runs.run("promise 1: two objects have nothing in common, the other", "make 0 0 0 = 0", "end = 0 ! 7");
        runs.end();
    }
}
