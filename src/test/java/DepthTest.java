import java.io.IOException;
import java.lang.reflect.Method;
import java.nio.file.Files;
import java.nio.file.Path;
import java.util.ArrayList;
import java.util.HashMap;
import java.util.HashSet;
import java.util.List;
import java.util.Map;
import java.util.Set;
import java.util.regex.Matcher;
import java.util.regex.Pattern;

/** How deep calls go in the class (rules 8, 11) and where objects are made (rule 12), seen from its text. */
public final class DepthTest {
    private static final int DEEPEST = 8;
    private static final int CLASSES_MAX = 12;
    private static final int LINES_MAX = 60;
    private static final Pattern HEAD = Pattern.compile("( +)(?:(?:public|private|static) )*\\w+(?:\\[\\])? (\\w+)\\(.*\\) \\{");
    private static final Pattern CALLED = Pattern.compile("\\b(\\w+)\\(");
    private static final Set<String> NO_CALLS = Set.of("if", "for", "while", "switch", "return");

    private static int wrong = 0;

    private final Map<String, List<String>> bodies = new HashMap<>();
    private final Set<String> open = new HashSet<>();

    private static void holds(String rule, boolean truth) {
        if (!truth) {
            wrong++;
            System.out.println("does not hold: " + rule);
        }
    }

    private void readMethods(List<String> lines) {
        for (int at = 0; at < lines.size(); at++) {
            Matcher head = HEAD.matcher(lines.get(at));
            if (!head.matches() || lines.get(at).contains(" new ") || NO_CALLS.contains(head.group(2))) {
                continue;
            }
            int end = lines.subList(at, lines.size()).indexOf(head.group(1) + "}") + at;
            holds(head.group(2) + " is the only method of its name", !bodies.containsKey(head.group(2)));
            holds(head.group(2) + " has some sixty lines at most", end - at <= LINES_MAX);
            bodies.put(head.group(2), new ArrayList<>(lines.subList(at + 1, end)));
        }
    }

    /** The method's own call counts as one, and so does a call of the library. */
    private int depth(String method) {
        if (!bodies.containsKey(method)) {
            return 1;
        }
        if (!open.add(method)) {
            holds(method + " does not call itself", false);
            return 1;
        }
        int deepest = 0;
        for (String line : bodies.get(method)) {
            Matcher called = CALLED.matcher(line);
            while (called.find()) {
                if (!NO_CALLS.contains(called.group(1))) {
                    deepest = Math.max(deepest, depth(called.group(1)));
                }
            }
        }
        open.remove(method);
        return deepest + 1;
    }

    private void depths() {
        for (String method : bodies.keySet()) {
            // One more than the method's own depth: whoever calls it from outside stands open, too.
            int depth = depth(method) + 1;
            holds(method + " goes eight deep at most, not " + depth, depth <= DEEPEST);
        }
    }

    private void makers(List<String> lines) {
        int classes = 0;
        for (String line : lines) {
            classes += line.matches(".*\\b(class|enum|record|interface) \\w+.*\\{") ? 1 : 0;
            holds("objects are made for fields alone: " + line.strip(),
                    !line.contains("new ") || line.matches(" +private final [\\w\\[\\]]+ \\w+ = new .*;"));
        }
        holds("some twelve classes at most", classes >= 1 && classes <= CLASSES_MAX);
    }

    public static void main(String[] args) throws IOException {
        List<String> lines = new ArrayList<>();
        for (String line : Files.readAllLines(Path.of("src/main/java/SafeShares.java"))) {
            if (!line.strip().startsWith("*") && !line.strip().startsWith("/")) {
                lines.add(line);
            }
        }
        DepthTest test = new DepthTest();
        test.readMethods(lines);
        for (Method method : SafeShares.class.getDeclaredMethods()) {
            holds(method.getName() + " was read", test.bodies.containsKey(method.getName()));
        }
        test.depths();
        test.makers(lines);
        System.out.println(wrong == 0 ? test.bodies.size() + " methods are as deep as told" : wrong + " rules do not hold");
        if (wrong != 0) {
            System.exit(1);
        }
    }
}
