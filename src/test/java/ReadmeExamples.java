import java.io.IOException;
import java.nio.file.Files;
import java.nio.file.Path;
import java.util.List;
import java.util.regex.Matcher;
import java.util.regex.Pattern;

/**
 * Writes a program that does what the examples of README.md do, and compares each
 * answer with the one that README.md tells behind the call: "call; // answer" or
 * "call; // answer: why", where the answer may be "throws" and a name.
 */
final class ReadmeExamples {
    private static final Pattern CALL = Pattern.compile("(?:(int \\w+) = )?(.+?);\\s*// (throws \\w+|[-\\w.]+)(?:: .*)?");

    private final StringBuilder program = new StringBuilder();

    private ReadmeExamples() {
    }

    public static void main(String[] args) throws IOException {
        ReadmeExamples test = new ReadmeExamples();
        test.write(Files.readAllLines(Path.of(args[0])), nameOf(Path.of(args[1])));
        Files.writeString(Path.of(args[1]), test.program);
    }

    private static String nameOf(Path file) {
        return file.getFileName().toString().replace(".java", "");
    }

    private void line(String text) {
        program.append(text).append('\n');
    }

    private void write(List<String> readme, String name) {
        line("final class " + name + " {");
        line("    public static void main(String[] args) {");
        line("        Check check = new Check();");
        line("        check.at(\"README.md\");");
        boolean isExample = false;
        for (String text : readme) {
            if (text.startsWith("```")) {
                isExample = text.equals("```java");
            } else if (isExample && !text.isBlank()) {
                writeExample(text);
            }
        }
        line("        check.end();");
        line("    }");
        line("}");
    }

    private void writeExample(String text) {
        Matcher call = CALL.matcher(text);
        if (!call.matches()) {
            line("        " + text);
            return;
        }
        String made = call.group(2);
        if (call.group(1) != null) {
            line("        " + call.group(1) + " = " + made + ";");
            made = call.group(1).replace("int ", "");
        }
        line("        check.due(\"" + call.group(2) + "\", Check.outcome(() -> " + made + "), \"" + call.group(3) + "\");");
    }
}
