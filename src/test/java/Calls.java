import java.lang.reflect.InvocationTargetException;
import java.lang.reflect.Method;
import java.util.HashMap;
import java.util.Map;

/** Calls told as texts, of a house or of anything with its methods. */
final class Calls {
    private static final Map<Class<?>, Map<String, Method>> METHODS = new HashMap<>();

    private Calls() {
    }

    /** What a call answers, as a text; "throws." and the name of an exception where it throws. */
    static String answer(Object house, String name, String... words) {
        Method method = methodsOf(house.getClass()).get(name);
        if (method == null || method.getParameterCount() != words.length) {
            return "no such method";
        }
        Object[] arguments = new Object[words.length];
        for (int i = 0; i < words.length; i++) {
            arguments[i] = argument(method.getParameterTypes()[i], words[i]);
        }
        try {
            return String.valueOf(method.invoke(house, arguments));
        } catch (InvocationTargetException e) {
            return thrown(e.getCause(), house instanceof Tillhouse);
        } catch (IllegalAccessException e) {
            return "not public";
        }
    }

    /** The type of an argument of a method of the house. */
    static Class<?> argumentType(String name, int place) {
        return methodsOf(Tillhouse.class).get(name).getParameterTypes()[place];
    }

    private static Map<String, Method> methodsOf(Class<?> type) {
        Map<String, Method> known = METHODS.get(type);
        if (known == null) {
            known = new HashMap<>();
            for (Method method : type.getDeclaredMethods()) {
                known.put(method.getName(), method);
            }
            METHODS.put(type, known);
        }
        return known;
    }

    private static String thrown(Throwable e, boolean isOfHouse) {
        // what the machine throws has a class of its own, or this message
        boolean isOfMachine = isOfHouse && "/ by zero".equals(e.getMessage());
        return "throws." + e.getClass().getSimpleName() + (isOfMachine ? ".ofTheMachine" : "");
    }

    private static Object argument(Class<?> type, String word) {
        if (type == int.class) {
            return Integer.valueOf(word);
        }
        if (type == long.class) {
            return Long.valueOf(word);
        }
        if (type == boolean.class) {
            return Boolean.valueOf(word);
        }
        return word.startsWith("'") ? word.charAt(1) : (char) Integer.parseInt(word);
    }
}
