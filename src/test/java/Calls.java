import java.lang.reflect.InvocationTargetException;
import java.lang.reflect.Method;
import java.lang.reflect.Modifier;
import java.util.HashMap;
import java.util.Map;

/** Makes calls by their names, on a SkyLights or on a Model, so that both can be asked alike. */
final class Calls {
    /** What an answer is if the call threw. */
    static final int THREW = -987654321;

    private static final Map<Class<?>, Map<String, Method>> KNOWN = new HashMap<>();

    private Calls() {
    }

    static int ask(Object some, String name, long... n) {
        Method method = methods(some.getClass()).get(name);
        if (method == null || method.getParameterCount() != n.length) {
            throw new IllegalArgumentException("no call " + name + " with " + n.length + " numbers");
        }
        Object[] told = new Object[n.length];
        for (int i = 0; i < n.length; i++) {
            boolean wide = method.getParameterTypes()[i] == long.class;
            told[i] = wide ? (Object) n[i] : (Object) Math.toIntExact(n[i]);
        }
        try {
            return (Integer) method.invoke(some, told);
        } catch (InvocationTargetException e) {
            System.out.println(name + " threw " + e.getCause());
            return THREW;
        } catch (IllegalAccessException e) {
            throw new IllegalStateException(e);
        }
    }

    /**
     * A call as it is written, "flyer(0, 0, 200)"; least, most, leastlong and mostlong stand for the
     * ends of int and long. Two that are no calls: "tape(TEXT)" feeds a text and answers what the last
     * feed() did, "figure(TEXT)" does so and answers what figure() did.
     */
    static int ask(Object some, String call) {
        int open = call.indexOf('(');
        String name = call.substring(0, open);
        String inside = call.substring(open + 1, call.lastIndexOf(')'));
        if (name.equals("tape")) {
            return feed(some, inside);
        }
        if (name.equals("figure")) {
            feed(some, inside);
            return ask(some, "figure", new long[0]);
        }
        String[] parts = inside.isEmpty() ? new String[0] : inside.split(", ");
        long[] n = new long[parts.length];
        for (int i = 0; i < n.length; i++) {
            n[i] = number(parts[i]);
        }
        return ask(some, name, n);
    }

    /** How many calls a text asks for. */
    static int many(String call) {
        String inside = call.substring(call.indexOf('(') + 1, call.lastIndexOf(')'));
        int feeds = (inside.length() + 7) / 8;
        if (call.startsWith("tape(")) {
            return feeds;
        }
        return call.startsWith("figure(") ? feeds + 1 : 1;
    }

    private static long number(String text) {
        return switch (text) {
            case "least" -> Integer.MIN_VALUE;
            case "most" -> Integer.MAX_VALUE;
            case "leastlong" -> Long.MIN_VALUE;
            case "mostlong" -> Long.MAX_VALUE;
            default -> Long.parseLong(text);
        };
    }

    private static int feed(Object some, String text) {
        int answer = 0;
        for (int i = 0; i < text.length(); i += 8) {
            String part = text.substring(i, Math.min(text.length(), i + 8));
            answer = ask(some, "feed", Tapes.word(part), part.length());
        }
        return answer;
    }

    private static Map<String, Method> methods(Class<?> some) {
        Map<String, Method> methods = KNOWN.get(some);
        if (methods == null) {
            methods = new HashMap<>();
            for (Method method : some.getDeclaredMethods()) {
                if (!Modifier.isPrivate(method.getModifiers()) && !Modifier.isStatic(method.getModifiers())) {
                    method.setAccessible(true);
                    methods.put(method.getName(), method);
                }
            }
            KNOWN.put(some, methods);
        }
        return methods;
    }
}
