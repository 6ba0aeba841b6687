import java.lang.reflect.Constructor;
import java.lang.reflect.Field;
import java.lang.reflect.Method;
import java.lang.reflect.Modifier;
import java.util.Arrays;
import java.util.Set;
import java.util.TreeSet;

/** The public face is the document's, and nothing else can be seen (LANGUAGE.md, rule 1). */
public final class FaceTest {
    private static final String[] METHODS = {
        "person int int", "of int int", "type int", "close", "count int", "hours int", "lend int int", "tell int int",
        "cut int int", "drift int", "undo", "seed int", "ahead int int", "then int", "stops int", "all", "ever",
        "chain int int", "lends int int int", "instead int int int", "needs int int", "match int", "again",
        "forget int int int", "image", "restore", "heard int int int int int int", "film int int int int int",
        "sheet int int int", "drop int", "item int int int long", "copy int int int int int"};
    private static final String[] CONSTANTS = {
        "BAD -1", "NOT -2", "FULL -3", "NONE -4", "NULL -11", "CAST -12", "INDEX -13", "SIZE -14"};

    private static final Check check = new Check("FaceTest");

    private static String signature(Method method) {
        StringBuilder text = new StringBuilder(method.getName());
        for (Class<?> type : method.getParameterTypes()) {
            text.append(' ').append(type.getName());
        }
        return text.toString();
    }

    private static void same(String what, Set<String> got, String[] want) {
        check.due(what + " " + got, got.equals(new TreeSet<>(Arrays.asList(want))) ? 1 : 0, 1);
    }

    private static void methods() {
        Set<String> seen = new TreeSet<>();
        Set<String> names = new TreeSet<>();
        for (Method method : KeyedFeelings.class.getDeclaredMethods()) {
            if (!Modifier.isPrivate(method.getModifiers())) {
                seen.add(signature(method));
                names.add(method.getName());
                check.due(method + " is public", Modifier.isPublic(method.getModifiers()) ? 1 : 0, 1);
                check.due(method + " is no static one", Modifier.isStatic(method.getModifiers()) ? 1 : 0, 0);
                check.due(method + " answers an int", method.getReturnType() == int.class ? 1 : 0, 1);
            }
        }
        same("methods", seen, METHODS);
        privateNames(KeyedFeelings.class, names);
        for (Class<?> inside : KeyedFeelings.class.getDeclaredClasses()) {
            privateNames(inside, names);
            check.due(inside + " is static", Modifier.isStatic(inside.getModifiers()) ? 1 : 0, 1);
            check.due(inside + " is not open", inside.getModifiers() & (Modifier.PUBLIC | Modifier.PROTECTED), 0);
        }
    }

    private static void privateNames(Class<?> type, Set<String> names) {
        for (Method method : type.getDeclaredMethods()) {
            boolean clash = Modifier.isPrivate(method.getModifiers()) && names.contains(method.getName());
            check.due(method + " bears the name of a public one", clash ? 1 : 0, 0);
            check.due(method + " takes few", method.getParameterCount() <= 7 ? 1 : 0, 1);
        }
    }

    private static void fields() throws IllegalAccessException {
        Set<String> seen = new TreeSet<>();
        for (Field field : KeyedFeelings.class.getDeclaredFields()) {
            if (!Modifier.isPrivate(field.getModifiers())) {
                check.due(field + " is a constant", field.getModifiers(),
                    Modifier.PUBLIC | Modifier.STATIC | Modifier.FINAL);
                seen.add(field.getName() + " " + field.get(null));
            }
            if (Modifier.isStatic(field.getModifiers())) {
                check.due(field + " is final", Modifier.isFinal(field.getModifiers()) ? 1 : 0, 1);
            }
        }
        same("constants", seen, CONSTANTS);
    }

    public static void main(String[] args) throws IllegalAccessException {
        int modifiers = KeyedFeelings.class.getModifiers();
        check.due("the class is public and final", modifiers, Modifier.PUBLIC | Modifier.FINAL);
        Constructor<?>[] constructors = KeyedFeelings.class.getDeclaredConstructors();
        check.due("one constructor", constructors.length, 1);
        check.due("it is public", constructors[0].getModifiers(), Modifier.PUBLIC);
        check.due("it takes nothing", constructors[0].getParameterCount(), 0);
        methods();
        fields();
        check.end();
    }
}
