import java.io.ByteArrayOutputStream;
import java.io.IOException;
import java.io.PrintStream;
import java.lang.reflect.InvocationTargetException;
import java.lang.reflect.Method;
import java.lang.reflect.Modifier;
import java.nio.charset.StandardCharsets;
import java.nio.file.Files;
import java.nio.file.Path;
import java.util.ArrayList;
import java.util.List;
import java.util.Map;
import java.util.Set;
import java.util.TreeMap;
import java.util.TreeSet;
import java.util.regex.Matcher;
import java.util.regex.Pattern;

/** What README.md shows as calls and answers is what the class answers, and no call of the face is left out there. */
public final class ReadmeTest {
    private static final Pattern WRITE = Pattern.compile("write \"([^\"]*)\"");
    /** A call, its answer or exception if it has one, and a remark behind two spaces or more. */
    private static final Pattern ROW = Pattern.compile("([A-Za-z]+)\\(([-0-9, ]*)\\)(?: (=|throws) (\\S+))?(?: {2,}.*)?");
    /** A row of the table of calls: the call, what it does, its exceptions. */
    private static final Pattern TABLE_ROW = Pattern.compile("(?m)^\\| `([A-Za-z]+)\\(([a-z, ]*)\\)` \\| [^|]+ \\| ([^|]*) \\|$");

    private static final Map<String, Method> FACE = new TreeMap<>();
    private static final Set<String> SHOWN = new TreeSet<>();

    public static void main(String[] args) throws IOException, IllegalAccessException {
        String readme = Files.readString(Path.of("README.md"), StandardCharsets.UTF_8);
        for (Method method : ConventionInference.class.getDeclaredMethods()) {
            if (Modifier.isPublic(method.getModifiers())) {
                FACE.put(method.getName(), method);
            }
        }
        program(readme);
        table(readme);
        for (String block : blocks(readme, "calls")) {
            calls(block);
        }
        Check.same("the calls that README.md shows with answers", SHOWN, FACE.keySet());
        tests(readme);
        Check.finish();
    }

    /** The blocks of README.md that begin with three backquotes and the word. */
    private static List<String> blocks(String readme, String word) {
        List<String> blocks = new ArrayList<>();
        Matcher matcher = Pattern.compile("(?ms)^```" + word + "\n(.*?)^```$").matcher(readme);
        while (matcher.find()) {
            blocks.add(matcher.group(1));
        }
        return blocks;
    }

    /** The program shown is the one that is compiled here, and prints what its comments say. */
    private static void program(String readme) throws IOException {
        String program = Files.readString(Path.of("src/test/java/ReadmeProgram.java"), StandardCharsets.UTF_8);
        Check.same("the program of README.md", blocks(readme, "java"), List.of(program));
        List<String> due = new ArrayList<>();
        Matcher matcher = Pattern.compile("println\\(.*\\); *// (.*)").matcher(program);
        while (matcher.find()) {
            due.add(matcher.group(1));
        }
        Check.same("the program prints something", due.isEmpty(), false);
        Check.same("what the program prints", printed().lines().toList(), due);
    }

    private static String printed() {
        PrintStream screen = System.out;
        ByteArrayOutputStream bytes = new ByteArrayOutputStream();
        System.setOut(new PrintStream(bytes, true, StandardCharsets.UTF_8));
        ReadmeProgram.main(new String[0]);
        System.setOut(screen);
        return bytes.toString(StandardCharsets.UTF_8);
    }

    /** The table names each call once, with its number of arguments and its exceptions in their order. */
    private static void table(String readme) {
        Set<String> named = new TreeSet<>();
        Matcher matcher = TABLE_ROW.matcher(readme);
        while (matcher.find()) {
            String name = matcher.group(1);
            Check.same(name + " stands in the table once", named.add(name), true);
            if (FACE.containsKey(name)) {
                Method method = FACE.get(name);
                int given = matcher.group(2).isEmpty() ? 0 : matcher.group(2).split(", ").length;
                Check.same(name + " in the table: arguments", given, method.getParameterCount());
                List<String> declared = new ArrayList<>();
                for (Class<?> type : method.getExceptionTypes()) {
                    declared.add(type.getSimpleName());
                }
                Check.same(name + " in the table: exceptions", matcher.group(3).trim(), String.join(", ", declared));
            }
        }
        Check.same("the calls of the table", named, FACE.keySet());
    }

    /** Makes the calls of a block on a new object. */
    private static void calls(String block) throws IllegalAccessException {
        ConventionInference x = new ConventionInference();
        for (String line : block.split("\n")) {
            Matcher write = WRITE.matcher(line);
            Matcher row = ROW.matcher(line);
            if (write.matches()) {
                Check.write(x, write.group(1));
                SHOWN.add("appendCharacter");
            } else if (row.matches() && FACE.containsKey(row.group(1))) {
                String sign = row.group(3) == null ? "=" : row.group(3);
                String due = row.group(4) == null ? "nothing" : row.group(4);
                Check.same(line, answer(x, FACE.get(row.group(1)), row.group(2)), sign + " " + due);
                SHOWN.add(row.group(1));
            } else {
                Check.same("\"" + line + "\" is a call", false, true);
            }
        }
    }

    private static String answer(ConventionInference x, Method method, String arguments) throws IllegalAccessException {
        List<Object> given = new ArrayList<>();
        for (String argument : arguments.isEmpty() ? new String[0] : arguments.split(", ")) {
            given.add(Integer.valueOf(argument));
        }
        try {
            Object got = method.invoke(x, given.toArray());
            return "= " + (got == null ? "nothing" : got);
        } catch (InvocationTargetException e) {
            return "throws " + e.getCause().getClass().getSimpleName();
        }
    }

    /** README.md names each test of the project. */
    private static void tests(String readme) throws IOException {
        Set<String> due = new TreeSet<>();
        try (var files = Files.list(Path.of("src/test/java"))) {
            files.map(file -> file.getFileName().toString()).filter(name -> name.endsWith("Test.java"))
                .forEach(name -> due.add(name.replace(".java", "")));
        }
        Set<String> named = new TreeSet<>();
        Matcher matcher = Pattern.compile("(?m)^\\| ([A-Za-z]+Test) \\|").matcher(readme);
        while (matcher.find()) {
            named.add(matcher.group(1));
        }
        Check.same("the tests that README.md names", named, due);
    }
}
