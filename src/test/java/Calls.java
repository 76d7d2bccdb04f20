import java.lang.reflect.InvocationTargetException;
import java.lang.reflect.Method;
import java.util.StringJoiner;

/** Calls of the class by name, so that a call and the text that tells of it can't differ. */
final class Calls {
    private Calls() {
    }

    /** The answer of a call; a boolean counts 1 or 0. */
    static long of(ChipBoards x, String name, Object... args) {
        try {
            Object answer = method(name).invoke(x, args);
            return answer instanceof Boolean ? ((Boolean) answer ? 1 : 0) : (Integer) answer;
        } catch (InvocationTargetException | IllegalAccessException failed) {
            throw new IllegalStateException(text(name, args), failed);
        }
    }

    /** What the call answers if it is refused. */
    static long refusal(String name) {
        return method(name).getReturnType() == boolean.class ? 0 : ChipBoards.NONE;
    }

    static String text(String name, Object... args) {
        StringJoiner all = new StringJoiner(", ", name + "(", ")");
        for (Object one : args) {
            all.add(one.toString());
        }
        return all.toString();
    }

    private static Method method(String name) {
        for (Method one : ChipBoards.class.getDeclaredMethods()) {
            if (one.getName().equals(name)) {
                return one;
            }
        }
        throw new IllegalArgumentException("the face has no " + name);
    }
}
