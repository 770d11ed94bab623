import java.io.IOException;
import java.lang.reflect.Array;
import java.lang.reflect.Field;
import java.lang.reflect.Method;
import java.lang.reflect.Modifier;
import java.util.ArrayList;
import java.util.Collections;
import java.util.IdentityHashMap;
import java.util.List;
import java.util.Set;
import java.util.TreeSet;

/** The rules of ../shared/LANGUAGE.md, as far as the source and the compiled classes show them. */
public final class LanguageTest {
    private static final Set<String> EXCEPTIONS = Set.of("IllegalStateException", "IllegalArgumentException",
        "IndexOutOfBoundsException", "ArithmeticException", "UnsupportedOperationException", "NoSuchElementException",
        "RuntimeException");
    private static final Set<Class<?>> CONSTANTS = Set.of(int.class, long.class, boolean.class, char.class, String.class);

    public static void main(String[] args) throws IOException, IllegalAccessException {
        Source source = new Source();
        members();
        names(source);
        libraryCalls(source);
        staticFields();
        exceptions(source);
        loops(source);
        sizes(source);
        newObjects(source);
        room();
        Check.finish();
    }

    private static List<Class<?>> classes() {
        List<Class<?>> all = new ArrayList<>();
        all.add(ConventionInference.class);
        for (int i = 0; i < all.size(); i++) {
            all.addAll(List.of(all.get(i).getDeclaredClasses()));
        }
        return all;
    }

    /** Rule 1. */
    private static void members() {
        TreeSet<String> publicNames = new TreeSet<>();
        for (Method method : ConventionInference.class.getDeclaredMethods()) {
            if (Modifier.isPublic(method.getModifiers())) {
                publicNames.add(method.getName());
            } else {
                Check.same(method + " is private", Modifier.isPrivate(method.getModifiers()), true);
            }
        }
        for (Field field : ConventionInference.class.getDeclaredFields()) {
            Check.same(field + " is private", Modifier.isPrivate(field.getModifiers()), true);
        }
        for (Class<?> one : classes()) {
            if (one != ConventionInference.class) {
                Check.same(one + " is static", Modifier.isStatic(one.getModifiers()), true);
                Check.same(one + " is hidden", one.getModifiers() & (Modifier.PUBLIC | Modifier.PROTECTED), 0);
            }
            for (Method method : one.getDeclaredMethods()) {
                boolean isFace = one == ConventionInference.class && Modifier.isPublic(method.getModifiers());
                Check.same(method + " has a name of its own", isFace || !publicNames.contains(method.getName()), true);
            }
        }
    }

    /** Rules 2, 3, 6, 10 and 13: no name but those of own classes, of constants and of what the rules list. */
    private static void names(Source source) {
        TreeSet<String> allowed = new TreeSet<>(EXCEPTIONS);
        allowed.addAll(Set.of("Arrays", "Math", "System"));
        for (Class<?> one : classes()) {
            allowed.add(one.getSimpleName());
        }
        for (String name : source.find("\\b[A-Z][A-Za-z]*[a-z][A-Za-z]*\\b(?=[^\"\\n]*(\"[^\"\\n]*\"[^\"\\n]*)*\\n)")) {
            Check.same(name + " is allowed", allowed.contains(name), true);
        }
        for (String part : new String[] {"package ", "->", "::", "@", "\t", "synchronized", "assert", "finally", "instanceof",
            "volatile", "native", "static {", "NaN", "strictfp", "transient"}) {
            Check.same("the source has " + part, source.whole.contains(part), false);
        }
        Check.same("texts joined by +", source.find("\" *\\+|\\+ *\""), List.of());
        Check.same("masks on booleans", source.find("\\b(is|has|was)[A-Z][A-Za-z]* [|&^]=?[^|&]"), List.of());
        for (String line : source.find("(?m)^import .*$")) {
            boolean isAllowed = Set.of("import java.util.Arrays;", "import java.util.NoSuchElementException;").contains(line);
            Check.same(line + " is allowed", isAllowed, true);
        }
    }

    /** Rule 4. */
    private static void libraryCalls(Source source) {
        Set<String> allowed = Set.of("Arrays.fill", "Math.max", "Math.min", "System.arraycopy");
        for (String call : source.find("\\b(Arrays|Math|System)\\.[A-Za-z]+")) {
            Check.same(call + " is allowed", allowed.contains(call), true);
        }
    }

    /** Rule 5. */
    private static void staticFields() {
        for (Class<?> one : classes()) {
            for (Field field : one.getDeclaredFields()) {
                if (Modifier.isStatic(field.getModifiers())) {
                    Check.same(field + " is final", Modifier.isFinal(field.getModifiers()), true);
                    Check.same(field + " is a constant", CONSTANTS.contains(field.getType()), true);
                }
            }
        }
    }

    /** Rule 6. */
    private static void exceptions(Source source) {
        Check.same("try, catch", source.find("\\b(try|catch)\\b"), List.of());
        for (String thrown : source.find("\\bthrow\\b[^;]*;")) {
            String name = thrown.replaceAll("throw new ([A-Za-z]+)\\(\"[^\"]*\"\\);", "$1");
            Check.same(thrown, EXCEPTIONS.contains(name), true);
        }
        for (String constructor : source.find("(?s)(?<=\n)( {4}public| {8}) ?[A-Z][A-Za-z]*\\([^)]*\\) \\{.*?\n {4,8}\\}")) {
            Check.same("a throw in a constructor", constructor.contains("throw"), false);
        }
    }

    /** Rule 9: each loop has a counter and a bound. */
    private static void loops(Source source) {
        Check.same("while, do", source.find("\\b(while|do)\\b"), List.of());
        for (String loop : source.find("\\bfor \\([^{]*\\{")) {
            boolean hasBound = loop.matches("for \\(int ([a-z]+) = [^;]+; [^;]*\\b\\1( \\+ 1)? (<|<=|>=) [^;]+; \\1(\\+\\+|--)\\) \\{");
            Check.same(loop, hasBound, true);
        }
    }

    /** Rules 8 and 11. */
    private static void sizes(Source source) {
        Check.same("all methods of the face are found", source.methods.keySet().containsAll(Set.of("setBody", "run", "restore")), true);
        Check.same("the longest method of " + source.longest, source.longest <= 60, true);
        int depth = source.depth();
        Check.same("calls go " + depth + " deep", depth <= 8, true);
        Check.same("classes", classes().size() <= 12, true);
        for (Class<?> one : classes()) {
            int fields = 0;
            for (Field field : one.getDeclaredFields()) {
                fields += Modifier.isStatic(field.getModifiers()) ? 0 : 1;
            }
            Check.same(one + " has " + fields + " fields", fields <= 20, true);
            for (Method method : one.getDeclaredMethods()) {
                Check.same(method + " has few parameters", method.getParameterCount() <= 7, true);
            }
        }
    }

    /** Rule 12: no method makes an object but the exception that it throws. */
    private static void newObjects(Source source) {
        for (List<String> lines : source.methods.values()) {
            for (String line : lines) {
                Check.same(line, !line.matches(".*\\bnew\\b.*") || line.trim().startsWith("throw new "), true);
            }
        }
    }

    /** The room of a run: what one object keeps, so that thousands of them fit. */
    private static void room() throws IllegalAccessException {
        Set<Object> seen = Collections.newSetFromMap(new IdentityHashMap<>());
        int elements = count(new ConventionInference(), seen);
        Check.same(seen.size() + " objects and arrays", seen.size() <= 60, true);
        Check.same(elements + " fields and elements", elements <= 2500, true);
    }

    private static int count(Object object, Set<Object> seen) throws IllegalAccessException {
        if (!seen.add(object)) {
            return 0;
        }
        if (object.getClass().isArray()) {
            return Array.getLength(object);
        }
        int elements = 0;
        for (Field field : object.getClass().getDeclaredFields()) {
            if (!Modifier.isStatic(field.getModifiers())) {
                elements++;
                field.setAccessible(true);
                elements += field.getType().isPrimitive() ? 0 : count(field.get(object), seen);
            }
        }
        return elements;
    }
}
