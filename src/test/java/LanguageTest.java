import java.io.IOException;
import java.lang.reflect.Field;
import java.lang.reflect.Modifier;
import java.nio.file.Files;
import java.nio.file.Path;
import java.util.List;
import java.util.Map;
import java.util.Set;
import java.util.TreeMap;
import java.util.TreeSet;
import java.util.regex.Matcher;
import java.util.regex.Pattern;

/**
 * The rules of ../shared/LANGUAGE.md that can be read off the source, as far as the
 * class goes: it uses less than they allow, and this test holds it to that.
 */
public final class LanguageTest {
    private static final Path SOURCE = Path.of("src/main/java/CoinMechanism.java");
    private static final String CONSTRUCTOR = "CoinMechanism";
    private static final Check CHECK = new Check();

    private final String code;
    private final Map<String, String> bodies = new TreeMap<>();

    private LanguageTest(String source) {
        code = source.replaceAll("\"[^\"\n]*\"", "\"\"").replaceAll("(?s)/\\*.*?\\*/", "").replaceAll("//[^\n]*", "");
        Matcher method = Pattern.compile("(?ms)^    (?:public|private) [^;={]*?(\\w+)\\([^{;]*\\{\n.*?^    \\}$").matcher(code);
        while (method.find()) {
            bodies.put(method.group(1), method.group());
        }
    }

    public static void main(String[] args) throws IOException {
        String source = Files.readString(SOURCE);
        LanguageTest test = new LanguageTest(source);
        CHECK.run(
            () -> onlySignsUpTo127(source),
            test::allMethodsAreFound,
            test::oneClassWithoutPackageAndImport,
            test::noForbiddenWord,
            test::onlyTheseNamesOfClasses,
            LanguageTest::fieldsOfPlainTypes,
            test::throwsOnlyWithAWrittenText,
            test::objectsAreMadeByTheConstructorAlone,
            test::noRecursionAndNotDeep,
            test::loopsWithAnEnd,
            test::shortMethods);
        CHECK.end();
    }

    private static void onlySignsUpTo127(String source) {
        CHECK.at("LANGUAGE 4: the source has signs 1 to 127 alone");
        for (char sign : source.toCharArray()) {
            if (sign < 1 || sign > 127) {
                CHECK.due("a sign", (int) sign, "1 to 127");
            }
        }
        CHECK.due("the source is there", source.isEmpty(), false);
    }

    private void allMethodsAreFound() {
        CHECK.at("the test sees all methods");
        CHECK.due("methods and the constructor", bodies.size(), CoinMechanism.class.getDeclaredMethods().length + 1);
    }

    private void oneClassWithoutPackageAndImport() {
        CHECK.at("LANGUAGE, head, 1 and 4: one public class, no package line, no library");
        CHECK.due("the code starts with", code.strip().startsWith("public final class CoinMechanism {"), true);
        CHECK.due("classes", count("\\b(class|interface|enum|record)\\b"), 1);
        CHECK.due("package and import", count("\\b(package|import)\\b"), 0);
    }

    private void noForbiddenWord() {
        CHECK.at("LANGUAGE 2 and 6: a word that the class does without");
        List<String> words = List.of("try", "catch", "finally", "synchronized", "assert", "instanceof", "protected",
            "volatile", "transient", "native", "strictfp", "var", "yield", "goto");
        for (String word : words) {
            CHECK.due(word, count("\\b" + word + "\\b"), 0);
        }
        CHECK.due("lambdas", count("->"), 0);
        CHECK.due("method references", count("::"), 0);
        CHECK.due("static blocks", count("static\\s*\\{"), 0);
        CHECK.due("annotations", count("@"), 0);
    }

    private void onlyTheseNamesOfClasses() {
        CHECK.at("LANGUAGE 4: the library, only what stands there");
        Set<String> found = new TreeSet<>();
        Matcher name = Pattern.compile("\\b[A-Z]\\w*[a-z]\\w*(?:\\.\\w+)?").matcher(code);
        while (name.find()) {
            found.add(name.group());
        }
        CHECK.due("names of classes", found, new TreeSet<>(List.of("CoinMechanism", "IllegalArgumentException",
            "IllegalStateException", "IndexOutOfBoundsException", "Math.max", "Math.min")));
    }

    private static void fieldsOfPlainTypes() {
        CHECK.at("LANGUAGE 3, 5 and 11: fields");
        Set<Class<?>> constants = Set.of(int.class, long.class);
        Set<Class<?>> kept = Set.of(int.class, int[].class, long[].class, boolean[].class);
        int own = 0;
        for (Field field : CoinMechanism.class.getDeclaredFields()) {
            if (Modifier.isStatic(field.getModifiers())) {
                CHECK.due(field.getName() + " is final", Modifier.isFinal(field.getModifiers()), true);
                CHECK.due(field.getName() + " is int or long", constants.contains(field.getType()), true);
            } else {
                CHECK.due(field.getName() + " is a number or a row", kept.contains(field.getType()), true);
                own++;
            }
        }
        CHECK.due("some twenty fields at most: " + own, own <= 20, true);
    }

    private void throwsOnlyWithAWrittenText() {
        CHECK.at("LANGUAGE 6: throw new E(\"a written text\"), none in a constructor");
        CHECK.due("throws of another form", count("\\bthrow\\b(?! new \\w+\\(\"\"\\);)"), 0);
        CHECK.due("throws in the constructor", count(bodies.get(CONSTRUCTOR), "\\bthrow\\b"), 0);
    }

    private void objectsAreMadeByTheConstructorAlone() {
        CHECK.at("LANGUAGE 12: what a run makes is counted");
        for (Map.Entry<String, String> method : bodies.entrySet()) {
            if (!method.getKey().equals(CONSTRUCTOR)) {
                CHECK.due("new in " + method.getKey(), count(method.getValue(), "(?<!throw )\\bnew\\b"), 0);
            }
        }
        CHECK.due("calls in the constructor", count(bodies.get(CONSTRUCTOR), "\\b\\w+\\("), 1);
    }

    private void noRecursionAndNotDeep() {
        CHECK.at("LANGUAGE 8 and 11: calls go at most eight deep, none to itself");
        for (String method : bodies.keySet()) {
            int depth = depth(method, 1);
            CHECK.due(method + " goes " + depth + " deep", depth <= 8, true);
        }
    }

    /** How many calls stand open at once below this one; 9 stands for more, or for no end. */
    private int depth(String method, int open) {
        int deepest = open;
        for (String other : bodies.keySet()) {
            if (open <= 8 && count(inner(method), "(?<![\\w.])" + other + "\\(") > 0) {
                deepest = Math.max(deepest, depth(other, open + 1));
            }
        }
        return deepest;
    }

    private String inner(String method) {
        String body = bodies.get(method);
        return body.substring(body.indexOf('{'));
    }

    private void loopsWithAnEnd() {
        CHECK.at("LANGUAGE 9: a counter against a bound in every loop's head");
        CHECK.due("while", count("\\bwhile\\b"), 0);
        CHECK.due("loops of another form",
            count("\\bfor\\b(?! \\(int (\\w+) = \\w+; \\1 (<|<=|>|>=) \\w+; \\1(\\+\\+|--| \\*= 2)\\) \\{)"), 0);
    }

    private void shortMethods() {
        CHECK.at("LANGUAGE 11: short methods, at most seven parameters");
        for (Map.Entry<String, String> method : bodies.entrySet()) {
            CHECK.due(method.getKey() + " is short", method.getValue().lines().count() <= 60, true);
            String head = method.getValue().substring(0, method.getValue().indexOf(')'));
            CHECK.due("parameters of " + method.getKey(), count(head, ",") <= 6, true);
        }
    }

    private int count(String pattern) {
        return count(code, pattern);
    }

    private static int count(String text, String pattern) {
        Matcher found = Pattern.compile(pattern).matcher(text);
        int many = 0;
        while (found.find()) {
            many++;
        }
        return many;
    }
}
