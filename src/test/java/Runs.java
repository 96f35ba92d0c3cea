import java.util.ArrayList;
import java.util.Arrays;
import java.util.List;

/**
 * Runs of calls written as rows: "plug 0 1 2 = 0" is a call with its answer, and WHY has to be 0
 * behind it; "plug 0 1 2 = 0 ! 5" wants WHY 5. Every run is on a new object. Behind a refused call,
 * and behind a question, all has to look as it did ahead of it.
 */
final class Runs {
    /** Numbers next to 0 .. 15, to 0 .. 24 and to the places of a row of 12, and as far from them as can be. */
    static final long[] NO_SHELF = {-1, 16, Integer.MIN_VALUE, Integer.MAX_VALUE};
    static final long[] NO_KIND = {-1, 25, Integer.MIN_VALUE, Integer.MAX_VALUE, 32, 64};
    static final long[] NO_PLACE = {-1, 12, Integer.MIN_VALUE, Integer.MAX_VALUE};
    static final long[] END_SHELF = {0, 15};
    static final long[] END_PLACE = {0, 11};

    private static final int WORDS_SHOWN = 200;

    private final String test;
    private int checks = 0;
    private int wrong = 0;

    Runs(String test) {
        this.test = test;
    }

    void run(String title, String... rows) {
        PatchHall hall = new PatchHall();
        List<Call> calls = new ArrayList<>();
        String look = null;
        for (int n = 0; n < rows.length; n++) {
            String where = title + ", row " + (n + 1) + ": " + rows[n].trim();
            String[] callAndDue = rows[n].split("=");
            String[] due = callAndDue[1].split("!");
            Call call = new Call(callAndDue[0]);
            long why = due.length > 1 ? Long.parseLong(due[1].trim()) : 0L;
            equal(where, call.on(hall), Long.parseLong(due[0].trim()));
            equal(where + ": WHY", hall.why(), why);
            if (call.isQuestion() || isRefused(call, why)) {
                String before = look == null ? Look.behind(calls) : look;
                calls.add(call);
                look = Look.behind(calls);
                sameLook(where, before, look);
            } else {
                calls.add(call);
                look = null;
            }
        }
    }

    /** The same rows for each value, which stands where they have a #. */
    void each(String title, long[] values, String... rows) {
        for (long value : values) {
            String[] filled = new String[rows.length];
            for (int n = 0; n < rows.length; n++) {
                filled[n] = rows[n].replace("#", Long.toString(value));
            }
            run(title + " (" + value + ")", filled);
        }
    }

    static long[] of(long... values) {
        return values;
    }

    static String[] with(String[] rows, String... last) {
        return with(Arrays.asList(rows), last);
    }

    static String[] with(List<String> rows, String... last) {
        List<String> all = new ArrayList<>(rows);
        all.addAll(Arrays.asList(last));
        return all.toArray(new String[0]);
    }

    private static boolean isRefused(Call call, long why) {
        return why != 0 && !(why == 5 && call.name().equals("copy"));
    }

    private void sameLook(String where, String before, String after) {
        checks++;
        if (!before.equals(after)) {
            wrong++;
            int at = 0;
            while (at < before.length() && at < after.length() && before.charAt(at) == after.charAt(at)) {
                at++;
            }
            int from = before.lastIndexOf('\n', at) + 1;
            System.out.println(where + " changed more than WHY. Before: "
                + before.substring(from, Math.min(from + WORDS_SHOWN, before.length())) + " After: "
                + after.substring(from, Math.min(from + WORDS_SHOWN, after.length())));
        }
    }

    void equal(String what, long got, long want) {
        checks++;
        if (got != want) {
            wrong++;
            System.out.println(what + " answered " + got + ", due is " + want);
        }
    }

    void isTrue(String what, boolean holds) {
        equal(what, holds ? 1 : 0, 1);
    }

    void end() {
        System.out.println(test + ": " + checks + " checks, " + wrong + " answers not as due");
        if (wrong != 0) {
            System.exit(1);
        }
    }
}
