import java.lang.reflect.InvocationTargetException;
import java.lang.reflect.Method;
import java.util.HashMap;
import java.util.Map;

/** Calls of the class told as texts, such as "tries(0, 2003, 41, 2)", so that tests can hold lists of them. */
final class Calls {
    private static final Map<String, Method> METHODS = new HashMap<>();

    static {
        for (Method method : StonesOver.class.getDeclaredMethods()) {
            if (java.lang.reflect.Modifier.isPublic(method.getModifiers())) {
                METHODS.put(method.getName(), method);
            }
        }
    }

    private Calls() {
    }

    static long ask(StonesOver x, String call) {
        int open = call.indexOf('(');
        String inner = call.substring(open + 1, call.length() - 1).trim();
        String[] told = inner.isEmpty() ? new String[0] : inner.split(",");
        long[] args = new long[told.length];
        for (int i = 0; i < told.length; i++) {
            args[i] = Long.parseLong(told[i].trim());
        }
        return ask(x, call.substring(0, open), args);
    }

    static long ask(StonesOver x, String name, long... args) {
        Method method = METHODS.get(name);
        Object[] given = new Object[args.length];
        for (int i = 0; i < args.length; i++) {
            boolean isLong = method.getParameterTypes()[i] == long.class;
            if (!isLong && args[i] != (int) args[i]) {
                throw new IllegalArgumentException(name + " takes no " + args[i]);
            }
            given[i] = isLong ? (Object) args[i] : (Object) (int) args[i];
        }
        try {
            return ((Number) method.invoke(x, given)).longValue();
        } catch (IllegalAccessException | InvocationTargetException e) {
            throw new IllegalStateException(told(name, args), e);
        }
    }

    static String told(String name, long... args) {
        StringBuilder b = new StringBuilder(name).append('(');
        for (int i = 0; i < args.length; i++) {
            b.append(i > 0 ? ", " : "").append(args[i]);
        }
        return b.append(')').toString();
    }

    /** Each of the calls answers as told behind its "= ". */
    static void are(StonesOver x, String... callsAndAnswers) {
        for (String each : callsAndAnswers) {
            int at = each.lastIndexOf("= ");
            Due.is(each.substring(0, at).trim(), ask(x, each.substring(0, at).trim()), Long.parseLong(each.substring(at + 2).trim()));
        }
    }
}
