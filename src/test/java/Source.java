import java.io.IOException;
import java.nio.charset.StandardCharsets;
import java.nio.file.Files;
import java.nio.file.Path;
import java.util.ArrayList;
import java.util.List;
import java.util.Map;
import java.util.TreeMap;
import java.util.TreeSet;
import java.util.regex.Matcher;
import java.util.regex.Pattern;

/** The source of the class without its comments, and its methods by their names. */
final class Source {
    private static final Pattern METHOD = Pattern.compile(
            "^( {4}| {8})((public|private|static|final) )*[a-z]+(\\[\\])? ([a-z][A-Za-z]*)\\(.*");
    private static final Pattern CALL = Pattern.compile("\\b([a-z][A-Za-z]*)\\(");

    final String whole;
    /** The lines of all methods that bear a name; methods of one name count as one, so that none is missed. */
    final Map<String, List<String>> methods = new TreeMap<>();
    int longest = 0;

    Source() throws IOException {
        // US_ASCII: a sign outside of it makes the reading fail.
        String text = Files.readString(Path.of("src/main/java/ConventionInference.java"), StandardCharsets.US_ASCII);
        whole = text.replaceAll("(?s)/\\*.*?\\*/", "").replaceAll("//[^\n]*", "");
        String[] lines = whole.split("\n");
        for (int i = 0; i < lines.length; i++) {
            Matcher matcher = METHOD.matcher(lines[i]);
            if (matcher.matches() && !lines[i].trim().endsWith(";")) {
                i = takeMethod(lines, i, matcher.group(1), matcher.group(5));
            }
        }
    }

    /** A method ends with a brace that stands as far in as its first line. */
    private int takeMethod(String[] lines, int begin, String indent, String name) {
        List<String> body = methods.computeIfAbsent(name, none -> new ArrayList<>());
        int end = begin + 1;
        while (!lines[end].equals(indent + "}")) {
            body.add(lines[end]);
            end++;
        }
        longest = Math.max(longest, end - begin + 1);
        return end;
    }

    /** How many methods stand open at once at most, or 1000 if one can come back to itself. */
    int depth() {
        int deepest = 0;
        for (String name : methods.keySet()) {
            deepest = Math.max(deepest, depthFrom(name, new TreeSet<>()));
        }
        return deepest;
    }

    private int depthFrom(String name, TreeSet<String> open) {
        if (open.contains(name)) {
            return 1000;
        }
        open.add(name);
        int below = 0;
        for (String line : methods.get(name)) {
            Matcher matcher = CALL.matcher(line);
            while (matcher.find()) {
                if (methods.containsKey(matcher.group(1))) {
                    below = Math.max(below, depthFrom(matcher.group(1), open));
                }
            }
        }
        open.remove(name);
        return below + 1;
    }

    /** All parts of the source that the pattern finds. */
    List<String> find(String pattern) {
        List<String> found = new ArrayList<>();
        Matcher matcher = Pattern.compile(pattern).matcher(whole);
        while (matcher.find()) {
            found.add(matcher.group());
        }
        return found;
    }
}
