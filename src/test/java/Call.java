import java.lang.reflect.InvocationTargetException;
import java.lang.reflect.Method;
import java.util.regex.Matcher;
import java.util.regex.Pattern;

/** A call as a table writes it: name(argument, ..), a number being one of Call's names too. */
final class Call {
    static final String FORM = "\\w+\\([^)]*\\)";

    private final String text;
    private final Method method;
    private final Object[] arguments;

    Call(String text) {
        Matcher m = Pattern.compile("(\\w+)\\(([^)]*)\\)").matcher(text);
        if (!m.matches()) {
            throw new IllegalArgumentException("no call: " + text);
        }
        this.text = text;
        method = named(m.group(1));
        String[] written = m.group(2).isBlank() ? new String[0] : m.group(2).split(",");
        Class<?>[] types = method.getParameterTypes();
        if (written.length != types.length) {
            throw new IllegalArgumentException("as many arguments as " + method + " takes: " + text);
        }
        arguments = new Object[types.length];
        for (int n = 0; n < types.length; n++) {
            arguments[n] = argument(types[n], written[n].trim());
        }
    }

    private static Method named(String name) {
        for (Method m : DeepWearer.class.getMethods()) {
            if (m.getDeclaringClass() == DeepWearer.class && m.getName().equals(name)) {
                return m;
            }
        }
        throw new IllegalArgumentException("no call: " + name);
    }

    private static Object argument(Class<?> type, String written) {
        if (type == boolean.class) {
            return written.equals("true");
        }
        if (type == long.class) {
            return number(written);
        }
        return Math.toIntExact(number(written));
    }

    /** What a table writes for a number. */
    static long number(String written) {
        switch (written) {
            case "NONE": return DeepWearer.NONE;
            case "BAD": return DeepWearer.BAD;
            case "STATE": return DeepWearer.STATE;
            case "FULL": return DeepWearer.FULL;
            case "NO": return DeepWearer.NO;
            case "OUT": return -5;
            case "NOTHING": return -11;
            case "CAST": return -12;
            case "PLACE": return -13;
            case "SIZE": return -14;
            case "MIN": return Integer.MIN_VALUE;
            case "MAX": return Integer.MAX_VALUE;
            case "LMIN": return Long.MIN_VALUE;
            case "LMAX": return Long.MAX_VALUE;
            default: return Long.parseLong(written);
        }
    }

    long on(DeepWearer x) {
        try {
            Object answer = method.invoke(x, arguments);
            return ((Number) answer).longValue();
        } catch (IllegalAccessException | InvocationTargetException e) {
            throw new IllegalStateException(text + " is not answered", e);
        }
    }

    @Override
    public String toString() {
        return text;
    }
}
