import java.io.IOException;
import java.lang.reflect.Executable;
import java.lang.reflect.Field;
import java.lang.reflect.Method;
import java.lang.reflect.Modifier;
import java.nio.file.Files;
import java.nio.file.Path;
import java.util.ArrayList;
import java.util.Arrays;
import java.util.List;
import java.util.Set;
import java.util.TreeSet;
import java.util.regex.Matcher;
import java.util.regex.Pattern;

/** The public face, and those rules of LANGUAGE.md that can be seen from outside or in the text. */
public final class FaceTest {
    private static final Set<String> FACE = Set.of(
        "int make(int, int, int)", "int lay(int, int)", "int plug(int, int, int)", "int pull(int, int, int)",
        "int copy(int, int, int, int, int)", "int write(int, int, long)", "int knob(int, int)", "int play(int, int)",
        "int run(int, int)", "int ticks(int, int)", "int rest(int)", "int when(int, int)", "int begin()", "int end()",
        "int carry(int)", "int undo()", "int acts()", "int ask(int, int)", "long take(int, int, int)", "int size(int)",
        "long read(int, int)", "int at(int, int, int)", "int tell(int, int)", "int why()");
    private static final Pattern FORBIDDEN = Pattern.compile("\\b(throw|throws|try|catch|finally|synchronized|assert|"
        + "import|package|protected|native|volatile|transient|var|hashCode|toString|equals|Object|Thread)\\b|->|::|@");
    private static final Pattern LIBRARY_CALL = Pattern.compile("\\b([A-Z]\\w*[a-z]\\w*)\\.(\\w+)\\(");
    private static final Set<String> LIBRARY_USED = Set.of("Math.abs", "Math.max", "Math.min", "System.arraycopy");
    private static final Set<Class<?>> CONSTANTS = Set.of(int.class, long.class, boolean.class, char.class,
        String.class, int[].class, long[].class, char[].class, byte[].class);
    private static final int MOST_CLASSES = 12;
    private static final int MOST_FIELDS = 20;
    private static final int MOST_PARAMETERS = 7;
    private static final int MOST_LINES = 60;

    public static void main(String[] args) throws IOException {
        Runs runs = new Runs("FaceTest");
        face(runs);
        classesInside(runs);
        for (Class<?> one : allClasses()) {
            names(runs, one);
            fields(runs, one);
            parameters(runs, one);
        }
        text(runs);
        runs.end();
    }

    private static List<Class<?>> allClasses() {
        List<Class<?>> all = new ArrayList<>(Arrays.asList(PatchHall.class.getDeclaredClasses()));
        all.add(PatchHall.class);
        return all;
    }

    /** Rule 1: what is not private is the document's face, and nothing of it is missing. */
    private static void face(Runs runs) {
        runs.isTrue("the class is public and final",
            (PatchHall.class.getModifiers() & (Modifier.PUBLIC | Modifier.FINAL)) == (Modifier.PUBLIC | Modifier.FINAL));
        runs.equal("constructors", PatchHall.class.getDeclaredConstructors().length, 1);
        runs.equal("public constructors", PatchHall.class.getConstructors().length, 1);
        Set<String> seen = new TreeSet<>();
        for (Method method : PatchHall.class.getDeclaredMethods()) {
            if (!Modifier.isPrivate(method.getModifiers())) {
                runs.isTrue(method + " is public, and of an object",
                    Modifier.isPublic(method.getModifiers()) && !Modifier.isStatic(method.getModifiers()));
                seen.add(signature(method));
            }
        }
        runs.isTrue("the face is the document's: " + seen, seen.equals(new TreeSet<>(FACE)));
        for (Field field : PatchHall.class.getDeclaredFields()) {
            runs.isTrue(field + " is private: the face has no constants", Modifier.isPrivate(field.getModifiers()));
        }
    }

    private static String signature(Method method) {
        List<String> types = new ArrayList<>();
        for (Class<?> type : method.getParameterTypes()) {
            types.add(type.getName());
        }
        return method.getReturnType().getName() + " " + method.getName() + "(" + String.join(", ", types) + ")";
    }

    /** Rules 2 and 11. */
    private static void classesInside(Runs runs) {
        Class<?>[] inside = PatchHall.class.getDeclaredClasses();
        runs.isTrue("at most twelve classes", inside.length + 1 <= MOST_CLASSES);
        for (Class<?> one : inside) {
            runs.isTrue(one + " is private and static",
                Modifier.isPrivate(one.getModifiers()) && Modifier.isStatic(one.getModifiers()));
            runs.equal(one + " has no class inside", one.getDeclaredClasses().length, 0);
        }
    }

    /** Rule 1: only the face's own methods bear its names. */
    private static void names(Runs runs, Class<?> one) {
        Set<String> taken = new TreeSet<>();
        for (String call : FACE) {
            taken.add(call.replaceAll("\\w+ (\\w+)\\(.*", "$1"));
        }
        for (Method method : one.getDeclaredMethods()) {
            boolean isFace = one == PatchHall.class && Modifier.isPublic(method.getModifiers());
            runs.isTrue(method + " has a name of its own", isFace || !taken.contains(method.getName()));
        }
    }

    /** Rules 5 and 11. */
    private static void fields(Runs runs, Class<?> one) {
        int count = 0;
        for (Field field : one.getDeclaredFields()) {
            if (Modifier.isStatic(field.getModifiers())) {
                runs.isTrue(field + " is a constant",
                    Modifier.isFinal(field.getModifiers()) && CONSTANTS.contains(field.getType()));
            } else {
                count++;
            }
        }
        runs.isTrue(one + " has at most twenty fields", count <= MOST_FIELDS);
    }

    /** Rule 11. */
    private static void parameters(Runs runs, Class<?> one) {
        List<Executable> all = new ArrayList<>(Arrays.asList(one.getDeclaredMethods()));
        all.addAll(Arrays.asList(one.getDeclaredConstructors()));
        for (Executable executable : all) {
            runs.isTrue(executable + " has at most seven parameters", executable.getParameterCount() <= MOST_PARAMETERS);
        }
    }

    private static void text(Runs runs) throws IOException {
        String text = Files.readString(Path.of("src/main/java/PatchHall.java"));
        String code = text.replaceAll("(?s)/\\*.*?\\*/", "").replaceAll("//[^\n]*", "");
        runs.isTrue("characters 0 to 127 alone", text.chars().allMatch(c -> c < 128));
        for (String line : text.split("\n")) {
            runs.isTrue("a line of at most 110 characters: " + line, line.length() <= 110);
        }
        words(runs, code);
        library(runs, code);
        lengths(runs, code);
    }

    /** Rules 2, 4 and 6. */
    private static void words(Runs runs, String code) {
        Matcher matcher = FORBIDDEN.matcher(code);
        while (matcher.find()) {
            runs.isTrue("the code has no " + matcher.group(), false);
        }
    }

    /** Rule 4, of which the class needs little. */
    private static void library(Runs runs, String code) {
        Set<String> own = new TreeSet<>();
        for (Class<?> one : allClasses()) {
            own.add(one.getSimpleName());
        }
        Matcher calls = LIBRARY_CALL.matcher(code);
        while (calls.find()) {
            String call = calls.group(1) + "." + calls.group(2);
            runs.isTrue(call + " is of the library's allowed part",
                own.contains(calls.group(1)) || LIBRARY_USED.contains(call));
        }
    }

    /** Rule 11: a method's text begins with its head and ends with a brace as far in as that. */
    private static void lengths(Runs runs, String code) {
        Matcher methods = Pattern.compile("(?ms)^( +)[\\w\\[\\] ]+\\([^()]*\\) \\{\n.*?^\\1\\}").matcher(code);
        int count = 0;
        while (methods.find()) {
            count++;
            String method = methods.group();
            runs.isTrue("a method of at most sixty lines: " + method, method.split("\n").length <= MOST_LINES);
        }
        int due = 0;
        for (Class<?> one : allClasses()) {
            due += one.getDeclaredMethods().length;
        }
        runs.isTrue("the text of every method was seen: " + count + " of " + due, count >= due);
    }
}
