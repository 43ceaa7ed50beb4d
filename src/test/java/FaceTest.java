import java.lang.reflect.Constructor;
import java.lang.reflect.Field;
import java.lang.reflect.Method;
import java.lang.reflect.Modifier;
import java.util.ArrayList;
import java.util.Arrays;
import java.util.List;
import java.util.Set;
import java.util.TreeSet;

/**
 * The class shows the document's face and nothing else (rule 1 of LANGUAGE.md), and what can be
 * seen of all classes keeps to rules 3, 5 and 11.
 */
final class FaceTest {
    private static final String INDEX = "IndexOutOfBoundsException";
    private static final String ARGUMENT = "IllegalArgumentException";
    private static final String STATE = "IllegalStateException";
    private static final List<String> FACE = List.of(
            "int join(int, int) " + ARGUMENT + " " + STATE,
            "int joinAt(int, int, int) " + ARGUMENT + " " + STATE,
            "int leave(int) " + INDEX,
            "int serve() " + STATE,
            "int say(int, int) " + INDEX + " " + ARGUMENT,
            "int setSplit(int) " + ARGUMENT,
            "int offer(int, int) " + INDEX + " " + ARGUMENT + " " + STATE,
            "int take(int) " + INDEX + " " + STATE,
            "int swap(int) " + INDEX + " " + STATE,
            "int befriend(int) " + INDEX + " " + STATE,
            "int part(int) " + INDEX + " " + STATE,
            "int settle()",
            "int member(int, int) " + INDEX + " " + ARGUMENT,
            "int at(int) " + ARGUMENT,
            "int pair(int, int) " + INDEX + " " + ARGUMENT,
            "int whole(int) " + ARGUMENT,
            "int reason(int) " + INDEX,
            "int settledPlace(int) " + INDEX,
            "int profit(int, int) " + INDEX + " " + ARGUMENT,
            "int bestLie(int) " + INDEX,
            "int honestCost()",
            "int disorder()",
            "int type(int) " + ARGUMENT + " " + STATE,
            "int clearCommands()",
            "int runCommands()",
            "int undo() " + STATE,
            "long digest()");

    private static final Set<Class<?>> TYPES = Set.of(int.class, long.class, short.class,
            byte.class, char.class, boolean.class, double.class, float.class, String.class,
            StringBuilder.class, List.class, ArrayList.class);
    private static final Set<Class<?>> IN_ENUMS = Set.of(int.class, long.class, boolean.class,
            String.class);
    private static final Set<Class<?>> CONSTANTS = Set.of(int.class, long.class, char.class,
            boolean.class, String.class, int[].class, long[].class, char[].class, byte[].class);
    private static final int MOST_CLASSES = 12;
    private static final int MOST_FIELDS = 20;
    private static final int MOST_PARAMETERS = 7;

    private FaceTest() {
    }

    public static void main(String[] args) {
        methods();
        fields();
        constructors();
        classes();
        rules();
        Expect.finish();
    }

    private static void methods() {
        TreeSet<String> shown = new TreeSet<>();
        TreeSet<String> shownNames = new TreeSet<>();
        for (Method method : ConsentQueue.class.getDeclaredMethods()) {
            if (Modifier.isPublic(method.getModifiers())) {
                shown.add(written(method));
                shownNames.add(method.getName());
            }
        }
        TreeSet<String> due = new TreeSet<>(FACE);
        Expect.holds("public methods " + shown + ", due " + due, shown.equals(due));
        for (Method method : ConsentQueue.class.getDeclaredMethods()) {
            boolean isPublic = Modifier.isPublic(method.getModifiers());
            Expect.holds(method + " is public or private",
                    isPublic || Modifier.isPrivate(method.getModifiers()));
            Expect.holds(method + " has a name of its own",
                    isPublic || !shownNames.contains(method.getName()));
        }
    }

    private static String written(Method method) {
        StringBuilder text = new StringBuilder(method.getReturnType().getName());
        text.append(' ').append(method.getName()).append('(');
        String[] types = Arrays.stream(method.getParameterTypes()).map(Class::getName)
                .toArray(String[]::new);
        text.append(String.join(", ", types)).append(')');
        for (Class<?> thrown : method.getExceptionTypes()) {
            text.append(' ').append(thrown.getSimpleName());
        }
        return text.toString();
    }

    private static void fields() {
        for (Field field : ConsentQueue.class.getDeclaredFields()) {
            boolean isNone = field.getName().equals("NONE");
            int modifiers = field.getModifiers();
            Expect.holds(field + " is private, but for NONE",
                    isNone ? Modifier.isPublic(modifiers) : Modifier.isPrivate(modifiers));
            Expect.holds(field + " is final if static",
                    !Modifier.isStatic(modifiers) || Modifier.isFinal(modifiers));
        }
    }

    private static void constructors() {
        Constructor<?>[] all = ConsentQueue.class.getDeclaredConstructors();
        Expect.equal("constructors", all.length, 1);
        Expect.holds("a public one without arguments",
                Modifier.isPublic(all[0].getModifiers()) && all[0].getParameterCount() == 0);
    }

    private static void classes() {
        Expect.holds("the class is public and final",
                Modifier.isPublic(ConsentQueue.class.getModifiers())
                        && Modifier.isFinal(ConsentQueue.class.getModifiers()));
        for (Class<?> inside : ConsentQueue.class.getDeclaredClasses()) {
            int modifiers = inside.getModifiers();
            Expect.holds(inside + " is private and static",
                    Modifier.isPrivate(modifiers) && Modifier.isStatic(modifiers));
        }
    }

    private static void rules() {
        Class<?>[] inside = ConsentQueue.class.getDeclaredClasses();
        Expect.holds("at most some twelve classes", inside.length < MOST_CLASSES);
        fieldRules(ConsentQueue.class);
        parameters(ConsentQueue.class);
        for (Class<?> each : inside) {
            fieldRules(each);
            parameters(each);
        }
    }

    private static void fieldRules(Class<?> owner) {
        int own = 0;
        for (Field field : owner.getDeclaredFields()) {
            if (field.isSynthetic()) {
                continue;
            }
            if (Modifier.isStatic(field.getModifiers())) {
                Expect.holds(field + " is a constant",
                        Modifier.isFinal(field.getModifiers()) && isConstant(field.getType()));
            } else {
                own++;
                Expect.holds(field + " is of a type that may stand there",
                        mayStandInObjects(field.getType(), owner.isEnum()));
            }
        }
        Expect.holds(owner + " has some twenty fields at most", own <= MOST_FIELDS);
    }

    private static boolean isConstant(Class<?> type) {
        Class<?> element = type.isArray() ? type.getComponentType() : type;
        return CONSTANTS.contains(type) || element.isEnum();
    }

    private static boolean mayStandInObjects(Class<?> type, boolean inEnum) {
        if (inEnum) {
            return IN_ENUMS.contains(type);
        }
        Class<?> element = type.isArray() ? type.getComponentType() : type;
        return TYPES.contains(element) || element.getNestHost() == ConsentQueue.class;
    }

    private static void parameters(Class<?> owner) {
        for (Method method : owner.getDeclaredMethods()) {
            Expect.holds(method + " takes at most seven parameters",
                    method.getParameterCount() <= MOST_PARAMETERS);
        }
    }
}
