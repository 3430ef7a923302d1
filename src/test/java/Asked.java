import java.lang.reflect.InvocationTargetException;
import java.lang.reflect.Method;
import java.lang.reflect.Modifier;
import java.util.Map;
import java.util.TreeMap;

/** An object of the program, or of the Model, that is asked by the names of its calls; they are counted. */
final class Asked {
    static final Map<String, Method> FACE = faceOf(TreesLendRings.class);
    private static final Map<String, Method> MODEL = faceOf(Model.class);
    private static final int CALLS = 512;

    private final Object object;
    private final Map<String, Method> face;
    private int calls = 0;

    private Asked(Object object, Map<String, Method> face) {
        this.object = object;
        this.face = face;
    }

    static Asked program() {
        return new Asked(new TreesLendRings(), FACE);
    }

    static Asked model() {
        return new Asked(new Model(), MODEL);
    }

    private static Map<String, Method> faceOf(Class<?> c) {
        Map<String, Method> face = new TreeMap<>();
        for (Method m : c.getDeclaredMethods()) {
            if (Modifier.isPublic(m.getModifiers())) {
                face.put(m.getName(), m);
            }
        }
        return face;
    }

    int calls() {
        return calls;
    }

    /** The answer, a boolean counting 1 or 0; a flag among the numbers is told by 0 or 1. */
    long ask(String name, int... numbers) {
        if (++calls > CALLS) {
            throw new IllegalStateException("call " + calls + " of one object");
        }
        Method m = face.get(name);
        Object[] arguments = new Object[numbers.length];
        for (int i = 0; i < numbers.length; i++) {
            arguments[i] = m.getParameterTypes()[i] == boolean.class ? (Object) (numbers[i] == 1) : (Object) numbers[i];
        }
        try {
            Object answer = m.invoke(object, arguments);
            return answer instanceof Boolean ? (boolean) answer ? 1 : 0 : ((Number) answer).longValue();
        } catch (InvocationTargetException e) {
            throw new IllegalStateException(name + " threw " + e.getCause(), e.getCause());
        } catch (IllegalAccessException e) {
            throw new IllegalStateException(e);
        }
    }

    long tell(String text) {
        put(text);
        return ask("text");
    }

    void put(String text) {
        byte[] bytes = Due.bytes(text);
        ask("end", 0);
        for (int from = 0; from < bytes.length; from += 20) {
            ask("feed", Due.numbers(bytes, from));
        }
        ask("end", bytes.length);
    }
}
