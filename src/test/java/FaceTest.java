import java.lang.reflect.Constructor;
import java.lang.reflect.Field;
import java.lang.reflect.Method;
import java.lang.reflect.Modifier;
import java.util.Arrays;
import java.util.TreeSet;
import java.util.stream.Collectors;

/** The face of the class is the document's, and nothing else of it can be seen. */
public final class FaceTest {
    public static void main(String[] args) {
        Class<TermSimplifier> face = TermSimplifier.class;
        Checks.due("modifiers", "public final", () -> Modifier.toString(face.getModifiers()));
        Checks.due("methods", "boolean type(int); int convert(); int count(int); int pass(); int ran(int); int run(); "
                + "int simplify(); int written(int)", () -> methodsOf(face));
        for (Constructor<?> each : face.getDeclaredConstructors()) {
            Checks.due("constructor", "public TermSimplifier()", each::toString);
        }
        for (Field each : face.getDeclaredFields()) {
            Checks.due("field " + each, true, () -> Modifier.isPrivate(each.getModifiers()));
        }
        for (Class<?> each : face.getDeclaredClasses()) {
            Checks.due("class " + each, true, () -> Modifier.isStatic(each.getModifiers())
                    && !Modifier.isPublic(each.getModifiers()) && !Modifier.isProtected(each.getModifiers()));
        }
        Checks.end();
    }

    private static String methodsOf(Class<?> face) {
        TreeSet<String> seen = new TreeSet<>();
        for (Method each : face.getDeclaredMethods()) {
            if (!Modifier.isPrivate(each.getModifiers()) && !each.isSynthetic()) {
                String parameters = Arrays.stream(each.getParameterTypes()).map(Class::getName)
                        .collect(Collectors.joining(", "));
                seen.add(each.getReturnType() + " " + each.getName() + "(" + parameters + ")");
            }
        }
        return String.join("; ", seen);
    }
}
