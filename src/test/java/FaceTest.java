import java.lang.reflect.Constructor;
import java.lang.reflect.Field;
import java.lang.reflect.Method;
import java.lang.reflect.Modifier;
import java.util.Set;
import java.util.TreeSet;

/** The public face: the members that the document names, with their types, and no other one. */
public final class FaceTest {
    private static final Set<String> FACE = Set.of(
            "int addSnippet(boolean)", "int addToTrigger(int, char)", "int clearTrigger(int)",
            "boolean setOn(int, boolean)", "int putCharacter(int, char)", "int putSnippet(int, int)",
            "int putChoice(int, int, int)", "int putDate(int, int, char)", "int putStop(int)",
            "int clearBody(int)", "boolean choose(int, boolean)", "int setToday(int)", "int lengthOf(int)",
            "char characterOf(int, int)", "int stopsOf(int)", "int stopOf(int, int)", "boolean comesTo(int, int)",
            "int depth(int)", "boolean isShadowedBy(int, int)", "int shadower(int)", "int clashes()",
            "int key(char)", "char erase()", "int moveCaret(int)", "int nextStop()", "int undo()", "int length()",
            "char characterAt(int)", "int caret()", "int stops()", "int stopAt(int)", "int matching()",
            "int matchingByLooking()", "long saved()", "float keptShare()");

    private static final Checks CHECKS = new Checks();

    public static void main(String[] args) {
        CHECKS.promise(1);
        Class<?> face = ShorthandRules.class;
        CHECKS.due("public", true, Modifier.isPublic(face.getModifiers()));
        CHECKS.due("final", true, Modifier.isFinal(face.getModifiers()));
        CHECKS.due("the methods", new TreeSet<>(FACE), methods(face));
        CHECKS.due("constructors", 1, face.getDeclaredConstructors().length);
        for (Constructor<?> constructor : face.getDeclaredConstructors()) {
            CHECKS.due("its parameters", 0, constructor.getParameterCount());
            CHECKS.due("it is public", true, Modifier.isPublic(constructor.getModifiers()));
        }
        for (Field field : face.getDeclaredFields()) {
            CHECKS.due("private " + field.getName(), true, Modifier.isPrivate(field.getModifiers()));
        }
        CHECKS.end("FaceTest");
    }

    private static Set<String> methods(Class<?> face) {
        Set<String> told = new TreeSet<>();
        for (Method method : face.getDeclaredMethods()) {
            if (!Modifier.isPrivate(method.getModifiers())) {
                told.add(line(method));
            }
        }
        return told;
    }

    private static String line(Method method) {
        StringBuilder line = new StringBuilder(method.getReturnType().getName());
        line.append(' ').append(method.getName()).append('(');
        for (Class<?> type : method.getParameterTypes()) {
            line.append(line.charAt(line.length() - 1) == '(' ? "" : ", ").append(type.getName());
        }
        return line.append(')').toString();
    }
}
