import java.lang.reflect.Constructor;
import java.lang.reflect.Field;
import java.lang.reflect.Method;
import java.lang.reflect.Modifier;
import java.util.Arrays;
import java.util.List;
import java.util.TreeSet;

/** The class shows the document's face and nothing else (rules 1 and 5 of LANGUAGE.md). */
final class FaceTest {
    private static final String INDEX = "IndexOutOfBoundsException";
    private static final String ARGUMENT = "IllegalArgumentException";
    private static final String STATE = "IllegalStateException";
    private static final List<String> FACE = List.of(
            "int join(int, int) " + ARGUMENT + " " + STATE,
            "int joinAt(int, int, int) " + ARGUMENT + " " + STATE,
            "int leave(int) " + INDEX,
            "int serve() " + STATE,
            "int say(int, int) " + INDEX + " " + ARGUMENT,
            "int setSplit(int) " + ARGUMENT,
            "int offer(int, int) " + INDEX + " " + ARGUMENT + " " + STATE,
            "int take(int) " + INDEX + " " + STATE,
            "int swap(int) " + INDEX + " " + STATE,
            "int befriend(int) " + INDEX + " " + STATE,
            "int part(int) " + INDEX + " " + STATE,
            "int settle()",
            "int member(int, int) " + INDEX + " " + ARGUMENT,
            "int at(int) " + ARGUMENT,
            "int pair(int, int) " + INDEX + " " + ARGUMENT,
            "int whole(int) " + ARGUMENT,
            "int reason(int) " + INDEX,
            "int settledPlace(int) " + INDEX,
            "int profit(int, int) " + INDEX + " " + ARGUMENT,
            "int bestLie(int) " + INDEX,
            "int honestCost()",
            "int disorder()",
            "int type(int) " + ARGUMENT + " " + STATE,
            "int clearCommands()",
            "int runCommands()",
            "int undo() " + STATE,
            "long digest()");

    private FaceTest() {
    }

    public static void main(String[] args) {
        methods();
        fields();
        constructors();
        classes();
        Expect.finish();
    }

    private static void methods() {
        TreeSet<String> shown = new TreeSet<>();
        TreeSet<String> shownNames = new TreeSet<>();
        for (Method method : ConsentQueue.class.getDeclaredMethods()) {
            if (Modifier.isPublic(method.getModifiers())) {
                shown.add(written(method));
                shownNames.add(method.getName());
            }
        }
        TreeSet<String> due = new TreeSet<>(FACE);
        Expect.holds("public methods " + shown + ", due " + due, shown.equals(due));
        for (Method method : ConsentQueue.class.getDeclaredMethods()) {
            boolean isPublic = Modifier.isPublic(method.getModifiers());
            Expect.holds(method + " is public or private",
                    isPublic || Modifier.isPrivate(method.getModifiers()));
            Expect.holds(method + " has a name of its own",
                    isPublic || !shownNames.contains(method.getName()));
        }
    }

    private static String written(Method method) {
        StringBuilder text = new StringBuilder(method.getReturnType().getName());
        text.append(' ').append(method.getName()).append('(');
        String[] types = Arrays.stream(method.getParameterTypes()).map(Class::getName)
                .toArray(String[]::new);
        text.append(String.join(", ", types)).append(')');
        for (Class<?> thrown : method.getExceptionTypes()) {
            text.append(' ').append(thrown.getSimpleName());
        }
        return text.toString();
    }

    private static void fields() {
        for (Field field : ConsentQueue.class.getDeclaredFields()) {
            boolean isNone = field.getName().equals("NONE");
            int modifiers = field.getModifiers();
            Expect.holds(field + " is private, but for NONE",
                    isNone ? Modifier.isPublic(modifiers) : Modifier.isPrivate(modifiers));
            Expect.holds(field + " is final if static",
                    !Modifier.isStatic(modifiers) || Modifier.isFinal(modifiers));
        }
    }

    private static void constructors() {
        Constructor<?>[] all = ConsentQueue.class.getDeclaredConstructors();
        Expect.equal("constructors", all.length, 1);
        Expect.holds("a public one without arguments",
                Modifier.isPublic(all[0].getModifiers()) && all[0].getParameterCount() == 0);
    }

    private static void classes() {
        Expect.holds("the class is public and final",
                Modifier.isPublic(ConsentQueue.class.getModifiers())
                        && Modifier.isFinal(ConsentQueue.class.getModifiers()));
        for (Class<?> inside : ConsentQueue.class.getDeclaredClasses()) {
            int modifiers = inside.getModifiers();
            Expect.holds(inside + " is private and static",
                    Modifier.isPrivate(modifiers) && Modifier.isStatic(modifiers));
        }
    }
}
