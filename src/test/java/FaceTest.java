import java.io.IOException;
import java.lang.reflect.Constructor;
import java.lang.reflect.Field;
import java.lang.reflect.Method;
import java.lang.reflect.Modifier;
import java.nio.file.Files;
import java.nio.file.Path;
import java.util.Arrays;
import java.util.Set;
import java.util.TreeSet;
import java.util.regex.Matcher;
import java.util.regex.Pattern;

/** The public face is the document's and no more, and the source keeps to what of LANGUAGE.md can be seen by its words. */
public final class FaceTest {
    private static final String[] FACE = {
        "advise() int",
        "cell(int, int, int) int IndexOutOfBoundsException",
        "chart(int, int, int) int IndexOutOfBoundsException",
        "closes(int) int IllegalArgumentException",
        "count(int) int IndexOutOfBoundsException",
        "deepest(boolean) int",
        "digest() long",
        "foresee(int, int) int IllegalArgumentException IndexOutOfBoundsException",
        "harbours(int) int IllegalArgumentException",
        "mean() double",
        "pass(int) int IllegalArgumentException",
        "pilot(int) int IllegalArgumentException",
        "plant(int, int, int) int IndexOutOfBoundsException IllegalArgumentException",
        "setGround(int, int, int) int IndexOutOfBoundsException IllegalArgumentException",
        "setMonth(int, int, int) int IndexOutOfBoundsException IllegalArgumentException",
        "sound(int, int) int IndexOutOfBoundsException",
        "way(int, boolean) int IllegalArgumentException",
    };
    private static final String[] RULED_OUT = {
        "->", "::", "\\btry\\b", "\\bcatch\\b", "\\bfinally\\b", "\\bsynchronized\\b", "\\bassert\\b", "\\brecord\\b",
        "Exact\\(", "static\\s*\\{", "@", "\\bString\\.", "\\bThread\\b", "\\bRandom\\b", "\\bnew\\s+\\w+\\s*\\(\\s*\\)\\s*\\{",
        "\\bwhile\\s*\\(true", "for\\s*\\(;;", "\"\\s*\\+", "\\+\\s*\"", "\\bpackage\\b", "\\bvar\\b",
        "System\\.(?!arraycopy)", "Arrays\\.(?!fill|copyOf)", "Math\\.(?!abs|max|min|floorMod|floorDiv)",
    };

    private FaceTest() {
    }

    public static void main(String[] args) throws IOException {
        face();
        insides();
        String text = Files.readString(Path.of("src/main/java/ReefPilot.java"));
        source(text);
        asTheDocumentDeclares(text, new Document());
        Check.end("FaceTest");
    }

    private static void face() {
        Class<?> type = ReefPilot.class;
        Check.yes("public and final", type.getModifiers() == (Modifier.PUBLIC | Modifier.FINAL));
        Constructor<?>[] made = type.getDeclaredConstructors();
        Check.yes("one constructor", made.length == 1 && made[0].getParameterCount() == 0);
        Check.yes("a public one", made[0].getModifiers() == Modifier.PUBLIC && made[0].getExceptionTypes().length == 0);
        Set<String> seen = new TreeSet<>();
        Set<String> open = new TreeSet<>();
        for (Method method : type.getDeclaredMethods()) {
            if (!Modifier.isPrivate(method.getModifiers())) {
                Check.yes(method + " is public and an object's", method.getModifiers() == Modifier.PUBLIC);
                seen.add(signature(method));
                open.add(method.getName());
            }
        }
        Check.yes("the face is " + seen, seen.equals(new TreeSet<>(Arrays.asList(FACE))));
        for (Method method : type.getDeclaredMethods()) {
            if (Modifier.isPrivate(method.getModifiers())) {
                Check.yes(method + " has a name of its own", !open.contains(method.getName()));
            }
        }
    }

    private static String signature(Method method) {
        StringBuilder text = new StringBuilder(method.getName()).append('(');
        for (Class<?> parameter : method.getParameterTypes()) {
            text.append(text.charAt(text.length() - 1) == '(' ? "" : ", ").append(parameter.getSimpleName());
        }
        text.append(") ").append(method.getReturnType().getSimpleName());
        for (Class<?> thrown : method.getExceptionTypes()) {
            text.append(' ').append(thrown.getSimpleName());
        }
        return text.toString();
    }

    private static void insides() {
        Class<?>[] inside = ReefPilot.class.getDeclaredClasses();
        Check.yes("at most twelve classes", inside.length < 12);
        fields(ReefPilot.class);
        for (Class<?> type : inside) {
            int modifiers = type.getModifiers();
            Check.yes(type + " is static", Modifier.isStatic(modifiers));
            Check.yes(type + " is not open", !Modifier.isPublic(modifiers) && !Modifier.isProtected(modifiers));
            fields(type);
            for (Method method : type.getDeclaredMethods()) {
                String name = method.getName();
                Check.yes(name + " is not of them", !Set.of("equals", "hashCode", "toString").contains(name));
            }
        }
    }

    private static void fields(Class<?> type) {
        int own = 0;
        for (Field field : type.getDeclaredFields()) {
            Check.yes(field + " is private", Modifier.isPrivate(field.getModifiers()));
            boolean common = Modifier.isStatic(field.getModifiers());
            Check.yes(field + " is final if it is static", !common || Modifier.isFinal(field.getModifiers()));
            own += common ? 0 : 1;
        }
        Check.yes(type + " has at most twenty fields", own <= 20);
    }

    private static void source(String text) {
        Check.yes("signs 1 to 127 alone", text.chars().allMatch(sign -> sign > 0 && sign < 128));
        String code = text.replaceAll("(?s)/\\*.*?\\*/", "").replaceAll("//[^\n]*", "");
        for (String pattern : RULED_OUT) {
            Check.yes("no " + pattern, !Pattern.compile(pattern).matcher(code).find());
        }
        Matcher imports = Pattern.compile("import ([^;]*);").matcher(code);
        while (imports.find()) {
            Check.yes("import " + imports.group(1), Set.of("java.util.Arrays").contains(imports.group(1)));
        }
        Matcher thrown = Pattern.compile("throw\\b([^(]*)\\(").matcher(code);
        while (thrown.find()) {
            Check.yes("throw" + thrown.group(1), Set.of(" new IndexOutOfBoundsException", " new IllegalArgumentException")
                .contains(thrown.group(1)));
        }
        // What is made outside the constructors and the fields would be counted for each call.
        Matcher made = Pattern.compile("(?m)^(.*)\\bnew\\b").matcher(code);
        while (made.find()) {
            String line = made.group(1);
            Check.yes("new is for fields and exceptions: " + line,
                line.contains("private final") || line.matches("\\s*(table|coast|ahead|soundings|spread|water) = ")
                    || line.contains("throw"));
        }
    }

    /** The declarations are the document's to the word, in its order and under the headings that it tells. */
    private static void asTheDocumentDeclares(String text, Document document) {
        int behind = 0;
        for (String line : document.lines("The public face")) {
            if (line.startsWith("public ")) {
                int at = text.indexOf(line.replaceAll(";$", " {"));
                Check.yes("declared, and in this order: " + line, at >= behind);
                behind = at;
            }
        }
        for (String line : document.lines("Terms")) {
            Matcher heading = Pattern.compile("Ahead of the calls `(\\w+)`.* the interface says: (.*)\\.").matcher(line);
            if (heading.matches()) {
                String calls = "// " + heading.group(2) + "\\s*public \\w+ " + heading.group(1) + "\\(";
                Check.yes(heading.group(2) + " stands ahead of " + heading.group(1), Pattern.compile(calls).matcher(text).find());
            }
        }
    }
}
