import java.util.List;

/**
 * All that calls can tell of a hall as it stands behind some calls, but for WHY. Each part of the
 * look is taken on a hall of its own that has had the same calls, so that a part may do acts, too,
 * and none goes beyond the 512 calls that an object is promised for.
 */
final class Look {
    private final List<Call> calls;
    private final StringBuilder seen = new StringBuilder();
    private PatchHall hall;

    private Look(List<Call> calls) {
        this.calls = calls;
    }

    static String behind(List<Call> calls) {
        Look look = new Look(calls);
        for (int s = 0; s < 16; s++) {
            look.standAgain("shelf " + s);
            look.seeShelf(s);
            look.standAgain("things on " + s);
            look.seeThingsOn(s);
            look.standAgain("doings of " + s);
            look.seeDoingsOf(s);
            look.standAgain("takings back, seen on " + s);
            look.seeTakingsBack(s);
        }
        for (int m = 1; m <= 4; m++) {
            look.standAgain("sheet, " + m);
            look.seeSheet(m);
        }
        return look.seen.toString();
    }

    private void standAgain(String title) {
        hall = new PatchHall();
        for (Call call : calls) {
            call.on(hall);
        }
        seen.append('\n').append(title).append(':');
    }

    private void note(long answer) {
        seen.append(' ').append(answer).append('!').append(hall.why());
    }

    private void seeAllOf(int s) {
        for (int q = 0; q < 10; q++) {
            note(hall.tell(s, q));
        }
    }

    private void seeShelf(int s) {
        seeAllOf(s);
        int kind = hall.tell(s, 0);
        int places = hall.size(s);
        note(places);
        for (int i = 0; i < places; i++) {
            note(hall.take(s, kind, i));
            for (int j = 0; j < 12 && (kind == 16 || kind >= 23); j++) {
                note(hall.at(s, i, j));
            }
        }
    }

    /** Parts at places need not lie on a shelf, so they are pulled onto one. */
    private void seeThingsOn(int s) {
        hall.end();
        int kind = hall.tell(s, 0);
        int places = kind < 16 ? 0 : hall.size(s);
        int other = (s + 1) % 16;
        for (int i = 0; i < places; i++) {
            note(hall.pull(s, i, other));
            seeAllOf(other);
        }
    }

    /** What is played answers by all parts in it, however deep they are. */
    private void seeDoingsOf(int s) {
        hall.end();
        note(hall.play(s, 77));
        note(hall.play(s, -300));
        note(hall.ticks(s, 8));
        note(hall.rest(s));
        note(hall.play(s, 5));
    }

    private void seeTakingsBack(int s) {
        note(hall.acts());
        note(hall.end());
        int left = hall.acts();
        while (left > 0) {
            left = hall.undo();
            seen.append(' ').append(left).append(' ').append(hall.tell(s, 1)).append(' ').append(hall.tell(s, 3));
        }
    }

    private void seeSheet(int m) {
        note(hall.end());
        note(hall.carry(m));
        note(hall.acts());
        for (int s = 0; s < 16; s++) {
            seeAllOf(s);
        }
        note(hall.make(0, 0, 0));
    }
}
