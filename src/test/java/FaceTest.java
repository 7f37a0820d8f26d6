import java.io.IOException;
import java.lang.reflect.Constructor;
import java.lang.reflect.Field;
import java.lang.reflect.Method;
import java.lang.reflect.Modifier;
import java.nio.file.Files;
import java.nio.file.Path;
import java.util.Arrays;
import java.util.Set;
import java.util.TreeSet;
import java.util.regex.Matcher;
import java.util.regex.Pattern;
import java.util.stream.Collectors;

/** The public face of the document, and the rules of LANGUAGE.md that the class's text can show. */
public final class FaceTest {
    private static final String FACE = "safe(int,int) holder(int,int) way(int,int) type(int) clear() read() day(int)"
            + " change(int) undo() of(int,int) tells(int,int,int) finds(int) knows(int) comes(int,int) tell(int,int)"
            + " forget() agree() liars() guess() mixed(int,int,int) odds(int) best(int,int) must(int) cars(int,int)"
            + " envelope(int,int) days(int,int,int) part(int) image(int) from(int) status(int) count(int) digest()";
    private static final Set<String> LONGS = Set.of("part", "digest");
    private static final String BANNED = "\\b(throw|throws|try|catch|synchronized|assert|protected|native|volatile"
            + "|Object|Exception|Error|HashMap|Map|String\\.valueOf|System\\.(?!arraycopy)|\\w+Exact)\\b|->|::|@";

    private static int wrong = 0;

    private FaceTest() {
    }

    private static void holds(String rule, boolean truth) {
        if (!truth) {
            wrong++;
            System.out.println("does not hold: " + rule);
        }
    }

    private static String signature(Method m) {
        return m.getName() + Arrays.stream(m.getParameterTypes()).map(Class::getName)
                .collect(Collectors.joining(",", "(", ")"));
    }

    private static void methods(Class<?> face) {
        Set<String> due = new TreeSet<>(Arrays.asList(FACE.split(" ")));
        Set<String> open = new TreeSet<>();
        Set<String> names = new TreeSet<>();
        due.forEach(s -> names.add(s.substring(0, s.indexOf('('))));
        for (Method m : face.getDeclaredMethods()) {
            if (m.isSynthetic()) {
                continue;
            }
            if (Modifier.isPrivate(m.getModifiers())) {
                holds("no private method is named " + m.getName(), !names.contains(m.getName()));
                continue;
            }
            open.add(signature(m));
            holds(m + " is public and no static one", m.getModifiers() == Modifier.PUBLIC);
            holds(m + " answers as told", m.getReturnType() == (LONGS.contains(m.getName()) ? long.class : int.class));
        }
        holds("the open methods are those of the document: " + open, open.equals(due));
        for (Class<?> inside : face.getDeclaredClasses()) {
            for (Method m : inside.getDeclaredMethods()) {
                holds("no method inside is named " + m.getName(), !names.contains(m.getName()));
                holds(m + " takes seven at most", m.getParameterCount() <= 7);
            }
        }
    }

    private static void fields(Class<?> face) {
        Set<String> open = new TreeSet<>();
        for (Field f : face.getDeclaredFields()) {
            if (!Modifier.isPrivate(f.getModifiers())) {
                open.add(f.getName());
            }
            holds(f + " is final, if it is static", !Modifier.isStatic(f.getModifiers())
                    || Modifier.isFinal(f.getModifiers()));
        }
        holds("the open constants are those of the document", open.equals(Set.of("NONE", "BAD", "NO", "FULL")));
        Constructor<?>[] made = face.getDeclaredConstructors();
        holds("one public constructor of nothing", made.length == 1 && made[0].getParameterCount() == 0
                && Modifier.isPublic(made[0].getModifiers()));
        for (Class<?> inside : face.getDeclaredClasses()) {
            holds(inside + " is private and static", Modifier.isPrivate(inside.getModifiers())
                    && Modifier.isStatic(inside.getModifiers()));
            long kept = Arrays.stream(inside.getDeclaredFields()).filter(f -> !Modifier.isStatic(f.getModifiers())).count();
            holds(inside + " has some twenty fields at most", kept <= 20);
        }
    }

    private static void text(String text) {
        String code = Pattern.compile("//.*|/\\*.*?\\*/", Pattern.DOTALL).matcher(text.replaceAll("//.*", ""))
                .replaceAll("");
        Matcher banned = Pattern.compile(BANNED).matcher(code);
        while (banned.find()) {
            holds("no '" + banned.group() + "' in the class", false);
        }
        Matcher imports = Pattern.compile("import ([\\w.*]+);").matcher(code);
        while (imports.find()) {
            holds("no import of " + imports.group(1), imports.group(1).equals("java.util.Arrays"));
        }
        holds("no package line", !code.contains("package "));
        int length = 0;
        for (String line : text.split("\n")) {
            length = line.matches(" +(public|private|static|void|int|long|boolean|Safe)\\b.*\\) \\{") ? 0 : length + 1;
            holds("a method ends within some sixty lines, at: " + line, length < 64);
        }
    }

    public static void main(String[] args) throws IOException {
        methods(SafeShares.class);
        fields(SafeShares.class);
        holds("the class is public and final", SafeShares.class.getModifiers() == (Modifier.PUBLIC | Modifier.FINAL));
        text(Files.readString(Path.of("src/main/java/SafeShares.java")));
        System.out.println(wrong == 0 ? "the face is as told" : wrong + " rules do not hold");
        if (wrong != 0) {
            System.exit(1);
        }
    }
}
