import java.lang.reflect.InvocationTargetException;
import java.lang.reflect.Method;

/** One call written as in the document, e.g. "put(0, 0, 64, LOW)", that can be made on any vault. */
final class Call {
    private final Method method;
    private final Object[] arguments;

    Call(String text) {
        int open = text.indexOf('(');
        String inside = text.substring(open + 1, text.length() - 1);
        String[] words = inside.isEmpty() ? new String[0] : inside.split(", ");
        method = methodOf(text.substring(0, open));
        arguments = new Object[words.length];
        for (int i = 0; i < words.length; i++) {
            arguments[i] = valueOf(words[i]);
        }
    }

    /** What a call that is refused answers: false, or NONE. */
    int refusal() {
        return method.getReturnType() == boolean.class ? 0 : DrawingVault.NONE;
    }

    /** The answer, true and false as 1 and 0, or what stands in Checks for an exception. */
    int on(DrawingVault vault) {
        return Checks.answer(() -> made(vault));
    }

    private int made(DrawingVault vault) {
        try {
            Object answer = method.invoke(vault, arguments);
            return answer instanceof Boolean ? (Boolean) answer ? 1 : 0 : (Integer) answer;
        } catch (InvocationTargetException e) {
            if (e.getCause() instanceof RuntimeException) {
                throw (RuntimeException) e.getCause();
            }
            throw new AssertionError(e);
        } catch (IllegalAccessException e) {
            throw new AssertionError(e);
        }
    }

    private static Method methodOf(String name) {
        for (Method m : DrawingVault.class.getMethods()) {
            if (m.getName().equals(name)) {
                return m;
            }
        }
        throw new AssertionError("there is no call " + name);
    }

    private static Object valueOf(String word) {
        switch (word) {
            case "true":
                return true;
            case "false":
                return false;
            case "NONE":
                return DrawingVault.NONE;
            case "LOW":
                return Integer.MIN_VALUE;
            case "HIGH":
                return Integer.MAX_VALUE;
            default:
                return Integer.valueOf(word);
        }
    }
}
