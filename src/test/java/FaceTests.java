import java.lang.reflect.Constructor;
import java.lang.reflect.Field;
import java.lang.reflect.Method;
import java.lang.reflect.Modifier;
import java.util.Arrays;
import java.util.Set;
import java.util.TreeSet;

/** The public face is the document's, to the letter, and there is nothing beside it. */
final class FaceTests {
    private static final String[] METHODS = {
        "int write() throws IllegalArgumentException, IllegalStateException",
        "int swipe() throws IllegalStateException",
        "int turn()",
        "int join(int) throws IndexOutOfBoundsException",
        "int scratch(int, int) throws IndexOutOfBoundsException, IllegalArgumentException, IllegalStateException",
        "int change(int, int) throws IndexOutOfBoundsException, IllegalArgumentException",
        "int set(int, int) throws IndexOutOfBoundsException, IllegalArgumentException",
        "int append(int) throws IllegalArgumentException, IllegalStateException",
        "int clearBuffer()",
        "int firstError()",
        "int keep(int) throws IllegalArgumentException",
        "int goBack(int) throws IllegalArgumentException, IllegalStateException",
        "int undo() throws IllegalStateException",
        "int time(int) throws IllegalArgumentException",
        "int written(int) throws IllegalArgumentException",
        "int reads(boolean, int) throws IllegalArgumentException",
        "int bit(boolean, int) throws IllegalArgumentException",
        "int letter(boolean, int) throws IllegalArgumentException",
        "int count(int) throws IllegalArgumentException",
        "int setting(int) throws IndexOutOfBoundsException",
        "int isRight()",
        "int repair(int) throws IllegalArgumentException",
        "int ratios(int) throws IllegalArgumentException",
        "int greatestJerk()",
        "double shortShare()",
        "long digest()",
    };

    private FaceTests() {
    }

    static void run(Tally tally) {
        Class<?> face = StripeSwipes.class;
        tally.is("face: the class", Modifier.toString(face.getModifiers()), "public final");
        Set<String> publicNames = new TreeSet<>();
        Set<String> found = new TreeSet<>();
        for (Method method : face.getDeclaredMethods()) {
            if (Modifier.isPublic(method.getModifiers())) {
                publicNames.add(method.getName());
                found.add(Modifier.isStatic(method.getModifiers()) ? "static " + told(method) : told(method));
            }
        }
        tally.is("face: methods", found, new TreeSet<>(Arrays.asList(METHODS)));
        for (Method method : face.getDeclaredMethods()) {
            if (!Modifier.isPublic(method.getModifiers()) && !method.isSynthetic()) {
                String name = method.getName();
                tally.is("rule 1: " + name + " is private", Modifier.isPrivate(method.getModifiers()), true);
                tally.is("rule 1: the name of " + name, publicNames.contains(name), false);
            }
        }
        for (Field field : face.getDeclaredFields()) {
            String want = field.getName().equals("NONE") ? "public static final" : "private";
            tally.is("face: field " + field.getName(), Modifier.toString(field.getModifiers()).startsWith(want), true);
        }
        Constructor<?>[] constructors = face.getDeclaredConstructors();
        tally.is("face: constructors", constructors.length + " " + constructors[0], "1 public StripeSwipes()");
        for (Class<?> inside : face.getDeclaredClasses()) {
            String modifiers = Modifier.toString(inside.getModifiers());
            tally.is("rule 1: " + inside.getSimpleName(), modifiers.contains("static") && !modifiers.contains("public")
                    && !modifiers.contains("protected"), true);
        }
    }

    private static String told(Method method) {
        StringBuilder text = new StringBuilder(method.getReturnType().getSimpleName()).append(' ');
        text.append(method.getName()).append('(').append(names(method.getParameterTypes())).append(')');
        if (method.getExceptionTypes().length > 0) {
            text.append(" throws ").append(names(method.getExceptionTypes()));
        }
        return text.toString();
    }

    private static String names(Class<?>[] types) {
        return String.join(", ", Arrays.stream(types).map(Class::getSimpleName).toList());
    }
}
