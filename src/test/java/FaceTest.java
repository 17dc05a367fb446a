import java.lang.reflect.Constructor;
import java.lang.reflect.Field;
import java.lang.reflect.Member;
import java.lang.reflect.Method;
import java.lang.reflect.Modifier;
import java.util.Arrays;
import java.util.Set;
import java.util.TreeSet;
import java.util.stream.Collectors;

/** The class has the document's face and no more (LANGUAGE.md, rules 1 and 5). */
public final class FaceTest {
    private static final String FOUR =
            " throws IllegalArgumentException NoSuchElementException IllegalStateException UnsupportedOperationException";

    public static void main(String[] args) {
        constants();
        constructors();
        methods();
        nestedClasses();
        Check.finish();
    }

    private static void constants() {
        Check.due("STANDBY", TrainGuard.STANDBY, 0);
        Check.due("STAFF", TrainGuard.STAFF, 1);
        Check.due("FULL", TrainGuard.FULL, 2);
        Check.due("TRIP", TrainGuard.TRIP, 3);
        Check.due("POST", TrainGuard.POST, 4);
        Set<String> open = new TreeSet<>();
        for (Field field : TrainGuard.class.getDeclaredFields()) {
            if (isOpen(field)) {
                open.add(Modifier.toString(field.getModifiers()) + " " + field.getType() + " " + field.getName());
            }
        }
        Check.dueText("open fields", open.toString(), "[public static final int FULL, public static final int POST, "
                + "public static final int STAFF, public static final int STANDBY, public static final int TRIP]");
    }

    private static void constructors() {
        Constructor<?>[] all = TrainGuard.class.getDeclaredConstructors();
        Check.due("constructors", all.length, 1);
        Check.dueText("the constructor", all[0].toString(), "public TrainGuard()");
        Check.dueText("the class", Modifier.toString(TrainGuard.class.getModifiers()), "public final");
    }

    private static void methods() {
        Set<String> due = new TreeSet<>(Set.of(
                "int section(double, double)" + FOUR, "int restrict(double, double, double)" + FOUR,
                "int release(int)" + FOUR, "int train(int, double, double)" + FOUR));
        due.addAll(Set.of("int start(int)" + FOUR, "int ask(int, int)" + FOUR, "int stop(int)" + FOUR,
                "int take(int, int)" + FOUR, "int second(int, double, int)" + FOUR));
        due.addAll(Set.of("int wet(int, boolean)" + FOUR, "int acknowledge(int)" + FOUR, "int end(int)" + FOUR,
                "double of(int, int)" + FOUR, "double limit(double)" + FOUR, "int mode(int)" + FOUR));
        due.addAll(Set.of("int holds(int, int)" + FOUR, "int count(int)"));
        Set<String> open = new TreeSet<>();
        Set<String> names = new TreeSet<>();
        for (Method method : TrainGuard.class.getDeclaredMethods()) {
            if (isOpen(method)) {
                open.add(written(method));
                names.add(method.getName());
            }
        }
        Check.dueText("open methods", open.toString(), due.toString());
        for (Method method : TrainGuard.class.getDeclaredMethods()) {
            if (!isOpen(method) && names.contains(method.getName())) {
                Check.dueText("a private method's name", method.getName(), "one of no public method");
            }
        }
    }

    private static void nestedClasses() {
        for (Class<?> nested : TrainGuard.class.getDeclaredClasses()) {
            int modifiers = nested.getModifiers();
            Check.dueText(nested.getName() + " is static", "" + Modifier.isStatic(modifiers), "true");
            Check.dueText(nested.getName() + " is open",
                    "" + (Modifier.isPublic(modifiers) || Modifier.isProtected(modifiers)), "false");
        }
    }

    private static boolean isOpen(Member member) {
        return !Modifier.isPrivate(member.getModifiers()) && !member.isSynthetic();
    }

    private static String written(Method method) {
        String parameters = Arrays.stream(method.getParameterTypes()).map(Class::getName)
                .collect(Collectors.joining(", "));
        String thrown = Arrays.stream(method.getExceptionTypes()).map(Class::getSimpleName)
                .collect(Collectors.joining(" "));
        return method.getReturnType() + " " + method.getName() + "(" + parameters + ")"
                + (thrown.isEmpty() ? "" : " throws " + thrown);
    }
}
