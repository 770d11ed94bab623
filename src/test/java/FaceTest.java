import java.io.IOException;
import java.lang.reflect.Constructor;
import java.lang.reflect.Field;
import java.lang.reflect.Method;
import java.lang.reflect.Modifier;
import java.nio.charset.StandardCharsets;
import java.nio.file.Files;
import java.nio.file.Path;
import java.util.ArrayList;
import java.util.List;
import java.util.TreeSet;

/** The public face, and what of LANGUAGE.md can be seen from outside or in the signs of the source. */
public final class FaceTest {
    private static final String[] FACE = {
        "int appendCharacter(int) IllegalArgumentException IllegalStateException",
        "int setBody(int) IndexOutOfBoundsException IllegalArgumentException IllegalStateException",
        "int faultPosition()",
        "int length(int) IndexOutOfBoundsException",
        "char instruction(int,int) IndexOutOfBoundsException",
        "int operand(int,int) IndexOutOfBoundsException UnsupportedOperationException",
        "int removeInstruction(int,int) IndexOutOfBoundsException",
        "boolean isReachable(int,int) IndexOutOfBoundsException",
        "boolean isBalanced(int) IndexOutOfBoundsException",
        "int preserved(int) IndexOutOfBoundsException",
        "int surelyDefined(int) IndexOutOfBoundsException",
        "int arguments(int) IndexOutOfBoundsException",
        "int results(int) IndexOutOfBoundsException",
        "int liveBefore(int,int) IndexOutOfBoundsException IllegalStateException",
        "int neededSlots(int) IndexOutOfBoundsException",
        "boolean isVariadic(int) IndexOutOfBoundsException",
        "int callees(int) IndexOutOfBoundsException",
        "int callersOf(int) IndexOutOfBoundsException",
        "boolean isRecursive(int) IndexOutOfBoundsException",
        "int siteCount()",
        "int site(int,int) IndexOutOfBoundsException IllegalArgumentException",
        "int passedSlots(int) IndexOutOfBoundsException",
        "int missingSlots(int) IndexOutOfBoundsException",
        "int lostRegisters(int) IndexOutOfBoundsException",
        "int liveBehind(int) IndexOutOfBoundsException",
        "int problems()",
        "int firstProblem() NoSuchElementException",
        "int votes(int,int) IndexOutOfBoundsException IllegalArgumentException",
        "int role(int) IndexOutOfBoundsException NoSuchElementException",
        "int run(int,int) IndexOutOfBoundsException",
        "boolean isCut() IllegalStateException",
        "int observed() IllegalStateException NoSuchElementException",
        "int origin(int) IndexOutOfBoundsException IllegalStateException NoSuchElementException",
        "double preservedShare() ArithmeticException",
        "float problemShare() ArithmeticException",
        "void save()",
        "void restore() IllegalStateException"};

    public static void main(String[] args) throws IOException {
        face();
        hiddenMembers();
        nestedClasses();
        source();
        Check.finish();
    }

    private static void face() {
        TreeSet<String> got = new TreeSet<>();
        for (Method method : ConventionInference.class.getDeclaredMethods()) {
            if (!Modifier.isPrivate(method.getModifiers())) {
                Check.same(method + " is public", Modifier.isPublic(method.getModifiers()), true);
                got.add(signature(method));
            }
        }
        Check.same("the public methods", got, new TreeSet<>(List.of(FACE)));
        Constructor<?>[] constructors = ConventionInference.class.getDeclaredConstructors();
        Check.same("constructors", constructors.length, 1);
        Check.same("the constructor", constructors[0].toString(), "public ConventionInference()");
        Check.same("the class", ConventionInference.class.getModifiers(), Modifier.PUBLIC | Modifier.FINAL);
    }

    private static String signature(Method method) {
        List<String> parameters = new ArrayList<>();
        for (Class<?> type : method.getParameterTypes()) {
            parameters.add(type.getName());
        }
        StringBuilder text = new StringBuilder(method.getReturnType().getName());
        text.append(' ').append(method.getName()).append('(').append(String.join(",", parameters)).append(')');
        for (Class<?> type : method.getExceptionTypes()) {
            text.append(' ').append(type.getSimpleName());
        }
        return text.toString();
    }

    private static void hiddenMembers() {
        for (Field field : ConventionInference.class.getDeclaredFields()) {
            Check.same(field + " is private", Modifier.isPrivate(field.getModifiers()), true);
        }
    }

    private static void nestedClasses() {
        TreeSet<String> publicNames = new TreeSet<>();
        for (Method method : ConventionInference.class.getDeclaredMethods()) {
            if (Modifier.isPublic(method.getModifiers())) {
                publicNames.add(method.getName());
            }
        }
        for (Class<?> nested : ConventionInference.class.getDeclaredClasses()) {
            Check.same(nested + " is static", Modifier.isStatic(nested.getModifiers()), true);
            Check.same(nested + " is not public", Modifier.isPublic(nested.getModifiers()), false);
            for (Field field : nested.getDeclaredFields()) {
                boolean isFinal = Modifier.isFinal(field.getModifiers());
                Check.same(field + " is final if static", !Modifier.isStatic(field.getModifiers()) || isFinal, true);
            }
            for (Method method : nested.getDeclaredMethods()) {
                Check.same(method + " has a name of its own", publicNames.contains(method.getName()), false);
            }
        }
    }

    private static void source() throws IOException {
        Path path = Path.of("src/main/java/ConventionInference.java");
        String source = Files.readString(path, StandardCharsets.US_ASCII);
        for (String word : new String[] {"package ", "->", "::", "try ", "catch", "finally", "synchronized", "assert ",
            "Exact(", "System.out", "static {", "\t"}) {
            Check.same("the source has " + word, source.contains(word), false);
        }
        for (String line : source.split("\n")) {
            boolean isAllowed = !line.startsWith("import ") || line.equals("import java.util.NoSuchElementException;")
                    || line.equals("import java.util.Arrays;");
            Check.same(line, isAllowed, true);
        }
    }
}
