import java.lang.reflect.Constructor;
import java.lang.reflect.Executable;
import java.lang.reflect.Field;
import java.lang.reflect.Member;
import java.lang.reflect.Method;
import java.lang.reflect.Modifier;
import java.util.ArrayList;
import java.util.List;
import java.util.TreeSet;

/** The class has the public face that the document writes down, and nothing else is to be seen of it. */
public final class FaceTest {
    // The lines of the document's section 'The public face'.
    private static final String DOCUMENT = """
        public CoinMechanism();
        public int addKind(int value, int capacity) throws IllegalArgumentException, IllegalStateException;
        public int fill(int kind, int many) throws IndexOutOfBoundsException, IllegalArgumentException;
        public int take(int kind, int many) throws IndexOutOfBoundsException, IllegalArgumentException;
        public int emptyBox();
        public boolean accept(int kind, boolean isOn) throws IndexOutOfBoundsException;
        public int setLimit(int limit) throws IllegalArgumentException;
        public int addProduct(int price, int stock) throws IllegalArgumentException, IllegalStateException;
        public int setProduct(int product, int price, int stock) throws IndexOutOfBoundsException, IllegalArgumentException;
        public int product(int product, boolean isStock) throws IndexOutOfBoundsException;
        public int insert(int kind) throws IndexOutOfBoundsException;
        public int cancel();
        public int buy(int product) throws IndexOutOfBoundsException;
        public boolean refund() throws IllegalStateException;
        public int credit();
        public int escrow(int index) throws IndexOutOfBoundsException;
        public int coins(int kind, int what) throws IndexOutOfBoundsException;
        public int fewest(int amount) throws IllegalArgumentException;
        public int part(int amount, int kind) throws IllegalArgumentException, IndexOutOfBoundsException;
        public int below(int amount) throws IllegalArgumentException;
        public int gaps(int amount) throws IllegalArgumentException;
        public int unit();
        public boolean lamp();
        public long audit(int what) throws IndexOutOfBoundsException;
        public double exactShare();
        public long digest();
        """;
    private static final Check CHECK = new Check();

    public static void main(String[] args) {
        CHECK.run(
            FaceTest::asTheDocumentWrites,
            FaceTest::nothingElse,
            FaceTest::noPrivateMethodBearsAPublicName);
        CHECK.end();
    }

    private static void asTheDocumentWrites() {
        CHECK.at("The public face");
        List<String> due = new ArrayList<>();
        for (String line : DOCUMENT.lines().toList()) {
            due.add(withoutNames(line));
        }
        CHECK.due("public members", String.join("\n", new TreeSet<>(publicMembers())), String.join("\n", new TreeSet<>(due)));
        CHECK.due("the class is", Modifier.toString(CoinMechanism.class.getModifiers()), "public final");
        CHECK.due("it extends", CoinMechanism.class.getSuperclass(), Object.class);
        CHECK.due("what it implements", CoinMechanism.class.getInterfaces().length, 0);
        CHECK.due("its package", CoinMechanism.class.getPackageName(), "");
    }

    /** "public int take(int kind, int many) throws A, B;" without kind, many and the semicolon. */
    private static String withoutNames(String signature) {
        return signature.replace(";", "").replaceAll("(int|boolean) \\w+([,)])", "$1$2");
    }

    private static List<String> publicMembers() {
        List<String> found = new ArrayList<>();
        for (Constructor<?> constructor : CoinMechanism.class.getDeclaredConstructors()) {
            found.add(Modifier.toString(constructor.getModifiers()) + " " + signature(constructor));
        }
        for (Method method : CoinMechanism.class.getDeclaredMethods()) {
            if (Modifier.isPublic(method.getModifiers())) {
                found.add(Modifier.toString(method.getModifiers()) + " " + method.getReturnType() + " " + signature(method));
            }
        }
        return found;
    }

    private static String signature(Executable member) {
        String throwing = names(member.getExceptionTypes());
        return member.getName() + "(" + names(member.getParameterTypes()) + ")"
            + (throwing.isEmpty() ? "" : " throws " + throwing);
    }

    private static String names(Class<?>[] types) {
        List<String> names = new ArrayList<>();
        for (Class<?> type : types) {
            names.add(type.getSimpleName());
        }
        return String.join(", ", names);
    }

    private static void nothingElse() {
        CHECK.at("LANGUAGE 1: no other public, protected or package-visible member");
        for (Field field : CoinMechanism.class.getDeclaredFields()) {
            duePrivate(field);
        }
        for (Method method : CoinMechanism.class.getDeclaredMethods()) {
            if (!Modifier.isPublic(method.getModifiers())) {
                duePrivate(method);
            }
        }
        CHECK.due("public classes inside", CoinMechanism.class.getClasses().length, 0);
    }

    private static void duePrivate(Member member) {
        CHECK.due(member.getName() + " is private", Modifier.isPrivate(member.getModifiers()), true);
    }

    private static void noPrivateMethodBearsAPublicName() {
        CHECK.at("LANGUAGE 1: no private method bears the name of a public one");
        List<String> seen = new ArrayList<>();
        for (Method method : CoinMechanism.class.getDeclaredMethods()) {
            CHECK.due(method.getName() + " is there once", seen.contains(method.getName()), false);
            seen.add(method.getName());
        }
    }
}
