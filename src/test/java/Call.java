import java.lang.reflect.Method;
import java.util.HashMap;
import java.util.Map;
import java.util.Set;

/** A call with its arguments, written as words, such as "plug 0 1 2". */
final class Call {
    private static final Map<String, Method> METHODS = new HashMap<>();
    private static final Set<String> QUESTIONS = Set.of("acts", "ask", "take", "size", "read", "at", "tell", "why");

    static {
        for (Method method : PatchHall.class.getDeclaredMethods()) {
            METHODS.put(method.getName(), method);
        }
    }

    private final String text;
    private final Method method;
    private final Object[] arguments;

    Call(String text) {
        this.text = text.trim();
        String[] words = this.text.split(" +");
        method = METHODS.get(words[0]);
        if (method == null || method.getParameterCount() != words.length - 1) {
            throw new IllegalArgumentException("no such call: " + text);
        }
        arguments = new Object[words.length - 1];
        for (int a = 0; a < arguments.length; a++) {
            if (method.getParameterTypes()[a] == long.class) {
                arguments[a] = Long.parseLong(words[a + 1]);
            } else {
                arguments[a] = Integer.parseInt(words[a + 1]);
            }
        }
    }

    String name() {
        return method.getName();
    }

    boolean isQuestion() {
        return QUESTIONS.contains(method.getName());
    }

    long on(PatchHall hall) {
        try {
            return ((Number) method.invoke(hall, arguments)).longValue();
        } catch (ReflectiveOperationException e) {
            throw new IllegalStateException(text, e);
        }
    }
}
