import java.io.IOException;
import java.lang.reflect.Method;
import java.nio.file.Files;
import java.nio.file.Path;
import java.util.HashMap;
import java.util.HashSet;
import java.util.Map;
import java.util.Set;
import java.util.regex.Matcher;
import java.util.regex.Pattern;

/** The calls that README.md shows, in its order on one object: each answers what its comment begins with. */
public final class ReadmeTest {
    private static final Pattern SHOWN = Pattern.compile("x\\.(\\w+)\\((.*)\\); *// (-?\\d+)\\b.*");
    private static final Pattern TYPED = Pattern.compile("for \\(char c : \"(.*)\"\\.toCharArray\\(\\)\\) x\\.type\\(c\\);");

    private static int wrong = 0;

    private ReadmeTest() {
    }

    private static void holds(String rule, boolean truth) {
        if (!truth) {
            wrong++;
            System.out.println("does not hold: " + rule);
        }
    }

    private static Object[] numbers(String told) {
        if (told.isEmpty()) {
            return new Object[0];
        }
        String[] parts = told.split(", ");
        Object[] numbers = new Object[parts.length];
        for (int i = 0; i < parts.length; i++) {
            numbers[i] = parts[i].startsWith("'") ? (int) parts[i].charAt(1) : Integer.parseInt(parts[i]);
        }
        return numbers;
    }

    public static void main(String[] args) throws IOException, ReflectiveOperationException {
        Map<String, Method> face = new HashMap<>();
        for (Method method : SafeShares.class.getMethods()) {
            if (method.getDeclaringClass() == SafeShares.class) {
                face.put(method.getName(), method);
            }
        }
        Set<String> missing = new HashSet<>(face.keySet());
        SafeShares x = new SafeShares();
        for (String line : Files.readAllLines(Path.of("README.md"))) {
            Matcher typed = TYPED.matcher(line);
            if (typed.matches()) {
                typed.group(1).chars().forEach(x::type);
            }
            Matcher shown = SHOWN.matcher(line);
            holds("a call is shown with its answer: " + line, !line.startsWith("x.") || shown.matches());
            if (shown.matches() && face.containsKey(shown.group(1))) {
                missing.remove(shown.group(1));
                Object answer = face.get(shown.group(1)).invoke(x, numbers(shown.group(2)));
                holds(line + " (answered " + answer + ")",
                        ((Number) answer).longValue() == Long.parseLong(shown.group(3)));
            }
        }
        holds("every call is shown; these are not: " + missing, missing.isEmpty());
        System.out.println(wrong == 0 ? "README.md shows what is answered" : wrong + " answers are not as shown");
        if (wrong != 0) {
            System.exit(1);
        }
    }
}
