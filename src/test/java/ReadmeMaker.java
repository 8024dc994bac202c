import java.io.IOException;
import java.nio.file.Files;
import java.nio.file.Path;
import java.util.regex.Matcher;
import java.util.regex.Pattern;

/** Writes the example of README.md as a program, ReadmeExample, which asks for each answer that is told there. */
public final class ReadmeMaker {
    /** A call of the expander with what it answers behind it, as in "expander.caret();  // 5: at the first stop". */
    private static final Pattern TOLD = Pattern.compile("(expander\\..*\\)); *// ([^:]*):.*");

    public static void main(String[] args) throws IOException {
        System.out.println("public final class ReadmeExample {");
        System.out.println("    public static void main(String[] args) {");
        System.out.println("        Checks checks = new Checks();");
        boolean isExample = false;
        for (String line : Files.readAllLines(Path.of("README.md"))) {
            if (line.startsWith("```")) {
                isExample = line.equals("```java");
            } else if (isExample) {
                System.out.println(asked(line));
            }
        }
        System.out.println("        checks.end(\"ReadmeExample\");");
        System.out.println("    }");
        System.out.println("}");
    }

    private static String asked(String line) {
        Matcher told = TOLD.matcher(line);
        if (!told.matches()) {
            return line;
        }
        String call = told.group(1);
        return "checks.due(\"" + call + "\", \"" + told.group(2) + "\", \"\" + Checks.answerOf(() -> " + call + "));";
    }
}
