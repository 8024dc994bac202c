import java.lang.reflect.Constructor;
import java.lang.reflect.Field;
import java.lang.reflect.Method;
import java.lang.reflect.Modifier;
import java.util.Set;
import java.util.TreeSet;

/** The public face: the members that the document names, with their types and exceptions, and no other one. */
public final class FaceTest {
    /** The lines of the document, without the names of the parameters. */
    private static final Set<String> FACE = Set.of(
            "int addSnippet(boolean) throws IllegalStateException",
            "int addToTrigger(int, char)"
                    + " throws IndexOutOfBoundsException, IllegalArgumentException, IllegalStateException",
            "int clearTrigger(int) throws IndexOutOfBoundsException",
            "boolean setOn(int, boolean) throws IndexOutOfBoundsException",
            "int putCharacter(int, char)"
                    + " throws IndexOutOfBoundsException, IllegalArgumentException, IllegalStateException",
            "int putSnippet(int, int)"
                    + " throws IndexOutOfBoundsException, UnsupportedOperationException, IllegalStateException",
            "int putChoice(int, int, int)"
                    + " throws IndexOutOfBoundsException, UnsupportedOperationException, IllegalStateException",
            "int putDate(int, int, char)"
                    + " throws IndexOutOfBoundsException, IllegalArgumentException, IllegalStateException",
            "int putStop(int) throws IndexOutOfBoundsException, IllegalStateException",
            "int clearBody(int) throws IndexOutOfBoundsException",
            "boolean choose(int, boolean) throws IndexOutOfBoundsException",
            "int setToday(int) throws IllegalArgumentException",
            "int lengthOf(int) throws IndexOutOfBoundsException",
            "char characterOf(int, int) throws IndexOutOfBoundsException, NoSuchElementException",
            "int stopsOf(int) throws IndexOutOfBoundsException",
            "int stopOf(int, int) throws IndexOutOfBoundsException, NoSuchElementException",
            "boolean comesTo(int, int) throws IndexOutOfBoundsException",
            "int depth(int) throws IndexOutOfBoundsException",
            "boolean isShadowedBy(int, int) throws IndexOutOfBoundsException",
            "int shadower(int) throws IndexOutOfBoundsException, NoSuchElementException",
            "int clashes()",
            "int key(char) throws IllegalArgumentException, IllegalStateException",
            "char erase() throws NoSuchElementException",
            "int moveCaret(int) throws IllegalArgumentException",
            "int nextStop() throws NoSuchElementException",
            "int undo() throws IllegalStateException",
            "int length()",
            "char characterAt(int) throws IndexOutOfBoundsException",
            "int caret()",
            "int stops()",
            "int stopAt(int) throws IndexOutOfBoundsException",
            "int matching()",
            "int matchingByLooking()",
            "long saved()",
            "float keptShare() throws NoSuchElementException");

    private static final Checks CHECKS = new Checks();

    public static void main(String[] args) {
        CHECKS.promise(1);
        Class<?> face = ShorthandRules.class;
        CHECKS.due("public", true, Modifier.isPublic(face.getModifiers()));
        CHECKS.due("final", true, Modifier.isFinal(face.getModifiers()));
        CHECKS.due("the methods", new TreeSet<>(FACE), methods(face));
        CHECKS.due("constructors", 1, face.getDeclaredConstructors().length);
        for (Constructor<?> constructor : face.getDeclaredConstructors()) {
            CHECKS.due("its parameters", 0, constructor.getParameterCount());
            CHECKS.due("it is public", true, Modifier.isPublic(constructor.getModifiers()));
        }
        for (Field field : face.getDeclaredFields()) {
            CHECKS.due("private " + field.getName(), true, Modifier.isPrivate(field.getModifiers()));
        }
        CHECKS.due("private methods with the name of a public one", Set.of(), namesTwice(face));
        CHECKS.end("FaceTest");
    }

    private static Set<String> methods(Class<?> face) {
        Set<String> told = new TreeSet<>();
        for (Method method : face.getDeclaredMethods()) {
            if (!Modifier.isPrivate(method.getModifiers())) {
                told.add(line(method));
            }
        }
        return told;
    }

    private static Set<String> namesTwice(Class<?> face) {
        Set<String> names = new TreeSet<>();
        for (Method method : face.getDeclaredMethods()) {
            if (!Modifier.isPrivate(method.getModifiers())) {
                names.add(method.getName());
            }
        }
        Set<String> twice = new TreeSet<>();
        for (Method method : face.getDeclaredMethods()) {
            if (Modifier.isPrivate(method.getModifiers()) && names.contains(method.getName())) {
                twice.add(method.getName());
            }
        }
        return twice;
    }

    private static String line(Method method) {
        StringBuilder line = new StringBuilder(method.getReturnType().getName());
        line.append(' ').append(method.getName()).append('(');
        for (Class<?> type : method.getParameterTypes()) {
            line.append(line.charAt(line.length() - 1) == '(' ? "" : ", ").append(type.getName());
        }
        line.append(')');
        for (Class<?> thrown : method.getExceptionTypes()) {
            line.append(line.indexOf(" throws ") < 0 ? " throws " : ", ").append(thrown.getSimpleName());
        }
        return line.toString();
    }
}
