import java.io.IOException;
import java.lang.reflect.Method;
import java.lang.reflect.Modifier;
import java.nio.file.Files;
import java.nio.file.Path;
import java.util.List;
import java.util.TreeSet;
import java.util.regex.Matcher;
import java.util.regex.Pattern;
import java.util.stream.Stream;

/** README.md leaves nothing out: methods, tests; and the files that it names are there. */
public final class ReadmeTest {
    private static final Path TESTS = Path.of("src/test/java");
    private static final Check CHECK = new Check();

    public static void main(String[] args) throws IOException {
        String readme = Files.readString(Path.of("README.md"));
        List<String> files;
        try (Stream<Path> found = Files.list(TESTS)) {
            files = found.map(file -> file.getFileName().toString()).toList();
        }
        CHECK.run(
            () -> everyMethodHasAnExample(readme),
            () -> everyFileOfTheTestsIsNamed(readme, files),
            () -> whatItNamesIsThere(readme));
        CHECK.end();
    }

    private static void everyMethodHasAnExample(String readme) {
        CHECK.at("README.md: how to use the class");
        for (Method method : CoinMechanism.class.getDeclaredMethods()) {
            if (Modifier.isPublic(method.getModifiers())) {
                CHECK.due("an example of " + method.getName(), readme.contains("machine." + method.getName() + "("), true);
            }
        }
    }

    private static void everyFileOfTheTestsIsNamed(String readme, List<String> files) {
        CHECK.at("README.md: how to run its tests");
        CHECK.due("tests are there", files.isEmpty(), false);
        for (String file : files) {
            CHECK.due(file + " is named", readme.contains("`" + file.replace(".java", "`")), true);
        }
    }

    private static void whatItNamesIsThere(String readme) {
        CHECK.at("README.md: what it names is there");
        Matcher named = Pattern.compile("`((?:\\.ci/|src/)[\\w./]+)`").matcher(readme);
        TreeSet<String> paths = new TreeSet<>();
        while (named.find()) {
            paths.add(named.group(1));
        }
        CHECK.due("the class, the script and the tests are named",
            paths.containsAll(List.of("src/main/java/CoinMechanism.java", ".ci/run", "src/test/java")), true);
        for (String path : paths) {
            CHECK.due(path + " is there", Files.exists(Path.of(path)), true);
        }
        Matcher test = Pattern.compile("`(\\w+(?:Test|Check|Mechanism|Machines|Tale|Examples))`").matcher(readme);
        while (test.find()) {
            boolean isThere = Files.exists(TESTS.resolve(test.group(1) + ".java")) || test.group(1).equals("CoinMechanism");
            CHECK.due(test.group(1) + " is there", isThere, true);
        }
    }
}
