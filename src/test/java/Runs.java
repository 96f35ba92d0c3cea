import java.lang.reflect.Method;

/**
 * Runs of calls written as rows: "plug 0 1 2 = 0" is a call with its answer, and WHY has to be 0
 * behind it; "plug 0 1 2 = 0 ! 5" wants WHY 5. Every run is on a new object.
 */
final class Runs {
    private final String test;
    private int checks = 0;
    private int wrong = 0;

    Runs(String test) {
        this.test = test;
    }

    void run(String title, String... calls) {
        PatchHall hall = new PatchHall();
        for (int n = 0; n < calls.length; n++) {
            check(title + ", row " + (n + 1), hall, calls[n]);
        }
    }

    private void check(String where, PatchHall hall, String row) {
        String[] callAndDue = row.split("=");
        String[] due = callAndDue[1].split("!");
        equal(where + ": " + row.trim(), call(hall, callAndDue[0].trim().split(" +")), Long.parseLong(due[0].trim()));
        equal(where + ": WHY behind " + row.trim(), hall.why(), due.length > 1 ? Long.parseLong(due[1].trim()) : 0L);
    }

    void equal(String what, long got, long want) {
        checks++;
        if (got != want) {
            wrong++;
            System.out.println(what + " answered " + got + ", due is " + want);
        }
    }

    void isTrue(String what, boolean holds) {
        equal(what, holds ? 1 : 0, 1);
    }

    static long call(PatchHall hall, String[] words) {
        Method method = methodNamed(words[0]);
        Class<?>[] types = method.getParameterTypes();
        if (types.length != words.length - 1) {
            throw new IllegalArgumentException("not as many arguments as " + words[0] + " takes");
        }
        Object[] arguments = new Object[types.length];
        for (int a = 0; a < types.length; a++) {
            if (types[a] == long.class) {
                arguments[a] = Long.parseLong(words[a + 1]);
            } else {
                arguments[a] = Integer.parseInt(words[a + 1]);
            }
        }
        try {
            return ((Number) method.invoke(hall, arguments)).longValue();
        } catch (ReflectiveOperationException e) {
            throw new IllegalStateException(String.join(" ", words), e);
        }
    }

    private static Method methodNamed(String name) {
        for (Method method : PatchHall.class.getDeclaredMethods()) {
            if (method.getName().equals(name)) {
                return method;
            }
        }
        throw new IllegalArgumentException("no method " + name);
    }

    void end() {
        System.out.println(test + ": " + checks + " checks, " + wrong + " answers not as due");
        if (wrong != 0) {
            System.exit(1);
        }
    }
}
