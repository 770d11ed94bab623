import java.lang.reflect.Constructor;
import java.lang.reflect.Method;
import java.lang.reflect.Modifier;
import java.util.ArrayList;
import java.util.List;
import java.util.TreeSet;

/** The public face: the constructor and the methods of the document, with the exceptions that they declare. */
public final class FaceTest {
    private static final String[] FACE = {
        "int appendCharacter(int) IllegalArgumentException IllegalStateException",
        "int setBody(int) IndexOutOfBoundsException IllegalArgumentException IllegalStateException",
        "int faultPosition()",
        "int length(int) IndexOutOfBoundsException",
        "char instruction(int,int) IndexOutOfBoundsException",
        "int operand(int,int) IndexOutOfBoundsException UnsupportedOperationException",
        "int removeInstruction(int,int) IndexOutOfBoundsException",
        "boolean isReachable(int,int) IndexOutOfBoundsException",
        "boolean isBalanced(int) IndexOutOfBoundsException",
        "int preserved(int) IndexOutOfBoundsException",
        "int surelyDefined(int) IndexOutOfBoundsException",
        "int arguments(int) IndexOutOfBoundsException",
        "int results(int) IndexOutOfBoundsException",
        "int liveBefore(int,int) IndexOutOfBoundsException IllegalStateException",
        "int neededSlots(int) IndexOutOfBoundsException",
        "boolean isVariadic(int) IndexOutOfBoundsException",
        "int callees(int) IndexOutOfBoundsException",
        "int callersOf(int) IndexOutOfBoundsException",
        "boolean isRecursive(int) IndexOutOfBoundsException",
        "int siteCount()",
        "int site(int,int) IndexOutOfBoundsException IllegalArgumentException",
        "int passedSlots(int) IndexOutOfBoundsException",
        "int missingSlots(int) IndexOutOfBoundsException",
        "int lostRegisters(int) IndexOutOfBoundsException",
        "int liveBehind(int) IndexOutOfBoundsException",
        "int problems()",
        "int firstProblem() NoSuchElementException",
        "int votes(int,int) IndexOutOfBoundsException IllegalArgumentException",
        "int role(int) IndexOutOfBoundsException NoSuchElementException",
        "int run(int,int) IndexOutOfBoundsException",
        "boolean isCut() IllegalStateException",
        "int observed() IllegalStateException NoSuchElementException",
        "int origin(int) IndexOutOfBoundsException IllegalStateException NoSuchElementException",
        "double preservedShare() ArithmeticException",
        "float problemShare() ArithmeticException",
        "void save()",
        "void restore() IllegalStateException"};

    public static void main(String[] args) {
        face();
        Check.finish();
    }

    private static void face() {
        TreeSet<String> got = new TreeSet<>();
        for (Method method : ConventionInference.class.getDeclaredMethods()) {
            if (!Modifier.isPrivate(method.getModifiers())) {
                Check.same(method + " is public", Modifier.isPublic(method.getModifiers()), true);
                got.add(signature(method));
            }
        }
        Check.same("the public methods", got, new TreeSet<>(List.of(FACE)));
        Constructor<?>[] constructors = ConventionInference.class.getDeclaredConstructors();
        Check.same("constructors", constructors.length, 1);
        Check.same("the constructor", constructors[0].toString(), "public ConventionInference()");
        Check.same("the class", ConventionInference.class.getModifiers(), Modifier.PUBLIC | Modifier.FINAL);
    }

    private static String signature(Method method) {
        List<String> parameters = new ArrayList<>();
        for (Class<?> type : method.getParameterTypes()) {
            parameters.add(type.getName());
        }
        StringBuilder text = new StringBuilder(method.getReturnType().getName());
        text.append(' ').append(method.getName()).append('(').append(String.join(",", parameters)).append(')');
        for (Class<?> type : method.getExceptionTypes()) {
            text.append(' ').append(type.getSimpleName());
        }
        return text.toString();
    }
}
