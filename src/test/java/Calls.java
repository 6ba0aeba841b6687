import java.lang.reflect.InvocationTargetException;
import java.lang.reflect.Method;

/** Every call of the face by its number, on the class and on the model alike. */
final class Calls {
    static final String[] NAMES = {"person", "of", "type", "close", "count", "hours", "lend", "tell", "cut", "drift",
        "undo", "seed", "ahead", "then", "stops", "all", "ever", "chain", "lends", "instead", "needs", "match", "again",
        "forget", "image", "restore", "heard", "film", "sheet", "drop", "item", "copy"};
    static final int TYPE = 2, CLOSE = 3, HEARD = 26, FILM = 27, SHEET = 28, ITEM = 30;

    private final Object target;
    private final Method[] methods = new Method[NAMES.length];

    Calls(Object target) {
        this.target = target;
        for (Method method : target.getClass().getDeclaredMethods()) {
            for (int call = 0; call < NAMES.length; call++) {
                if (method.getName().equals(NAMES[call])) {
                    methods[call] = method;
                }
            }
        }
    }

    /** As many of the numbers as the call takes; the long is for the one that takes one. */
    int answer(int call, int[] numbers, long v) {
        Class<?>[] types = methods[call].getParameterTypes();
        Object[] arguments = new Object[types.length];
        for (int each = 0; each < types.length; each++) {
            arguments[each] = types[each] == long.class ? (Object) v : (Object) numbers[each];
        }
        try {
            return (int) methods[call].invoke(target, arguments);
        } catch (IllegalAccessException | InvocationTargetException e) {
            throw new IllegalStateException(NAMES[call], e);
        }
    }
}
