import java.io.IOException;
import java.lang.reflect.Member;
import java.lang.reflect.Method;
import java.lang.reflect.Modifier;
import java.nio.file.Files;
import java.nio.file.Path;
import java.util.ArrayList;
import java.util.Arrays;
import java.util.List;
import java.util.Set;
import java.util.TreeSet;
import java.util.regex.Matcher;
import java.util.regex.Pattern;

/** The public face, and those rules of LANGUAGE.md that can be seen from outside or in the text. */
public final class FaceTest {
    private static final Set<String> FACE = Set.of(
        "int make(int, int, int)", "int lay(int, int)", "int plug(int, int, int)", "int pull(int, int, int)",
        "int copy(int, int, int, int, int)", "int write(int, int, long)", "int knob(int, int)", "int play(int, int)",
        "int run(int, int)", "int ticks(int, int)", "int rest(int)", "int when(int, int)", "int begin()", "int end()",
        "int carry(int)", "int undo()", "int acts()", "int ask(int, int)", "long take(int, int, int)", "int size(int)",
        "long read(int, int)", "int at(int, int, int)", "int tell(int, int)", "int why()");
    private static final Pattern FORBIDDEN = Pattern.compile("\\b(throw|throws|try|catch|finally|synchronized|assert|"
        + "import|package|protected|native|volatile|transient|var|hashCode|toString|equals|Object|Thread)\\b|->|::|@");

    public static void main(String[] args) throws IOException {
        Runs runs = new Runs("FaceTest");
        face(runs);
        methods(runs);
        classesInside(runs);
        text(runs);
        runs.end();
    }

    private static void face(Runs runs) {
        runs.isTrue("the class is public and final",
            (PatchHall.class.getModifiers() & (Modifier.PUBLIC | Modifier.FINAL)) == (Modifier.PUBLIC | Modifier.FINAL));
        runs.equal("constructors", PatchHall.class.getDeclaredConstructors().length, 1);
        runs.equal("public constructors", PatchHall.class.getConstructors().length, 1);
        Set<String> seen = new TreeSet<>();
        for (Method method : PatchHall.class.getDeclaredMethods()) {
            if (Modifier.isPublic(method.getModifiers()) && !Modifier.isStatic(method.getModifiers())) {
                seen.add(signature(method));
            }
        }
        runs.isTrue("the face is the document's: " + seen, seen.equals(new TreeSet<>(FACE)));
    }

    private static String signature(Method method) {
        List<String> types = new ArrayList<>();
        for (Class<?> type : method.getParameterTypes()) {
            types.add(type.getName());
        }
        return method.getReturnType().getName() + " " + method.getName() + "(" + String.join(", ", types) + ")";
    }

    private static void methods(Runs runs) {
        Set<String> names = new TreeSet<>();
        List<Member> members = new ArrayList<>(Arrays.asList(PatchHall.class.getDeclaredMethods()));
        members.addAll(Arrays.asList(PatchHall.class.getDeclaredFields()));
        for (Member member : members) {
            boolean isOpen = Modifier.isPublic(member.getModifiers());
            runs.isTrue(member + " is public or private", isOpen || Modifier.isPrivate(member.getModifiers()));
            if (isOpen) {
                names.add(member.getName());
            }
        }
        for (Method method : PatchHall.class.getDeclaredMethods()) {
            runs.isTrue(method + " has at most seven parameters", method.getParameterCount() <= 7);
            runs.isTrue(method + " has a name of its own",
                Modifier.isPublic(method.getModifiers()) || !names.contains(method.getName()));
        }
    }

    private static void classesInside(Runs runs) {
        Class<?>[] inside = PatchHall.class.getDeclaredClasses();
        runs.isTrue("at most twelve classes", inside.length + 1 <= 12);
        for (Class<?> one : inside) {
            runs.isTrue(one + " is private and static",
                Modifier.isPrivate(one.getModifiers()) && Modifier.isStatic(one.getModifiers()));
            for (Method method : one.getDeclaredMethods()) {
                runs.isTrue(method + " has at most seven parameters", method.getParameterCount() <= 7);
            }
        }
    }

    private static void text(Runs runs) throws IOException {
        String text = Files.readString(Path.of("src/main/java/PatchHall.java"));
        String code = text.replaceAll("(?s)/\\*.*?\\*/", "").replaceAll("//[^\n]*", "");
        Matcher matcher = FORBIDDEN.matcher(code);
        while (matcher.find()) {
            runs.isTrue("the code has no " + matcher.group(), false);
        }
        Matcher fields = Pattern.compile("static (?!final)\\w+(\\[\\])? \\w+( =|;)").matcher(code);
        runs.isTrue("no static state", !fields.find());
        runs.isTrue("characters 0 to 127 alone", text.chars().allMatch(c -> c < 128));
        for (String line : text.split("\n")) {
            runs.isTrue("a line of at most 110 characters: " + line, line.length() <= 110);
        }
    }
}
