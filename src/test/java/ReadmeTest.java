import java.io.File;
import java.io.IOException;
import java.lang.reflect.InvocationTargetException;
import java.lang.reflect.Method;
import java.nio.file.Files;
import java.nio.file.Path;
import java.util.ArrayList;
import java.util.Arrays;
import java.util.List;
import java.util.Map;
import java.util.Set;
import java.util.TreeMap;
import java.util.TreeSet;
import java.util.concurrent.TimeUnit;
import java.util.regex.Matcher;
import java.util.regex.Pattern;
import java.util.stream.Collectors;
import java.util.stream.Stream;

/** What README.md says of use and of the tests is so. */
public final class ReadmeTest {
    private static final Path SOURCE = Path.of("src/main/java/ReefPilot.java");
    private static final Pattern CALL = Pattern.compile("(reef\\.(\\w+)\\(.*\\));\\s*// ([^:]*)(: .*)?");
    private static final Pattern ROW = Pattern.compile("\\| `((\\w+)\\(.*?\\))` \\| .*? \\|(.*)\\|");
    private static final Pattern BOUNDS = Pattern.compile("([a-zA-Z]+(?: and [a-zA-Z]+)*) (\\d+) to (\\d+|the cell's ground)");
    private static final Set<String> INDICES = Set.of("x", "y", "month", "what");

    private final String text = Files.readString(Path.of("README.md"));
    /** The methods of the face as the program's text declares them, with the names of what they take. */
    private final Map<String, List<String>> face = new TreeMap<>();

    private ReadmeTest() throws IOException {
        Matcher method = Pattern.compile("public (?:int|long|double) (\\w+)\\(([^)]*)\\)").matcher(Files.readString(SOURCE));
        while (method.find()) {
            face.put(method.group(1), Stream.of(method.group(2).split(", ")).filter(declared -> !declared.isEmpty())
                .map(declared -> declared.replaceAll(".* ", "")).collect(Collectors.toList()));
        }
    }

    public static void main(String[] args) throws Exception {
        ReadmeTest test = new ReadmeTest();
        test.examples();
        test.listOfCalls();
        test.places();
        test.listOfTests();
        test.commandsOfTests();
        Check.end("ReadmeTest");
    }

    private List<String> blocks(String kind) {
        List<String> found = new ArrayList<>();
        Matcher block = Pattern.compile("(?ms)^```" + kind + "\n(.*?)^```$").matcher(text);
        while (block.find()) {
            found.add(block.group(1));
        }
        return found;
    }

    // ---- how to use it

    private void examples() throws Exception {
        Set<String> used = new TreeSet<>();
        for (String example : blocks("java")) {
            List<String> due = new ArrayList<>();
            List<String> told = voyage(program(example, due, used));
            Check.same("lines that the example prints", told.size(), due.size());
            for (int i = 0; i < Math.min(told.size(), due.size()); i++) {
                Check.yes("README.md says " + due.get(i) + ", it is " + told.get(i), told.get(i).equals(due.get(i)));
            }
        }
        Check.yes("the examples use " + used + " of " + face.keySet(), used.equals(face.keySet()));
    }

    /** The example as a program that prints each answer, and takes down the answers that are due. */
    private static String program(String example, List<String> due, Set<String> used) {
        StringBuilder body = new StringBuilder();
        for (String line : example.split("\n")) {
            Matcher call = CALL.matcher(line);
            if (call.matches()) {
                due.add(call.group(1) + " -> " + call.group(3).trim());
                used.add(call.group(2));
                body.append("try { System.out.println(\"").append(call.group(1)).append(" -> \" + ").append(call.group(1))
                    .append("); } catch (RuntimeException thrown) { System.out.println(\"").append(call.group(1))
                    .append(" -> throws \" + thrown.getClass().getSimpleName()); }\n");
            } else {
                Check.yes("each line but the first is a call with its answer: " + line,
                    line.isEmpty() || line.equals("ReefPilot reef = new ReefPilot();"));
                body.append(line).append('\n');
            }
        }
        return "public final class Voyage {\npublic static void main(String[] args) {\n" + body + "}\n}\n";
    }

    /** Goes by README.md's own commands, in a directory with the class and the program alone. */
    private List<String> voyage(String program) throws IOException, InterruptedException {
        Path place = Files.createTempDirectory(Path.of("build"), "readme");
        Path source = place.resolve(SOURCE);
        Files.createDirectories(source.getParent());
        Files.copy(SOURCE, source);
        Files.writeString(place.resolve("Voyage.java"), program);
        return run(place, blocks("sh").get(0));
    }

    private static List<String> run(Path place, String commands) throws IOException, InterruptedException {
        File output = File.createTempFile("readme", ".txt", new File("build"));
        Process process = new ProcessBuilder("bash", "-e", "-c", commands).directory(place.toFile())
            .redirectErrorStream(true).redirectOutput(output).start();
        boolean ended = process.waitFor(120, TimeUnit.SECONDS);
        List<String> lines = Files.readAllLines(output.toPath());
        Check.yes("runs, but says " + lines + ": " + commands, ended && process.exitValue() == 0);
        process.destroyForcibly();
        return lines;
    }

    // ---- the list of the calls

    private void listOfCalls() throws Exception {
        Set<String> listed = new TreeSet<>();
        Matcher row = ROW.matcher(text);
        while (row.find()) {
            String name = row.group(2);
            List<String> takes = face.getOrDefault(name, List.of());
            Check.yes(row.group(1) + " takes " + takes, row.group(1).equals(name + "(" + String.join(", ", takes) + ")"));
            listed.add(name);
            Map<String, int[]> bounds = bounds(row.group(3));
            if (takes.contains("x")) {
                bounds.put("x", new int[] {0, 8});
                bounds.put("y", new int[] {0, 8});
            }
            Set<String> numbers = new TreeSet<>(takes);
            numbers.remove("byChart");
            Check.yes(name + " has bounds for each number", bounds.keySet().equals(numbers));
            for (Map.Entry<String, int[]> bound : bounds.entrySet()) {
                inBounds(name, takes, bound.getKey(), bound.getValue()[0], bound.getValue()[1]);
            }
        }
        Check.yes("the calls listed are " + listed, listed.equals(face.keySet()));
    }

    private static Map<String, int[]> bounds(String column) {
        Map<String, int[]> found = new TreeMap<>();
        Matcher bound = BOUNDS.matcher(column);
        while (bound.find()) {
            int greatest = bound.group(3).startsWith("the") ? 20 : Integer.parseInt(bound.group(3));
            for (String name : bound.group(1).split(" and ")) {
                found.put(name, new int[] {Integer.parseInt(bound.group(2)), greatest});
            }
        }
        return found;
    }

    private static void inBounds(String name, List<String> takes, String number, int least, int greatest) throws Exception {
        String refusal = "throws " + (INDICES.contains(number) ? "IndexOutOfBoundsException" : "IllegalArgumentException");
        for (int value : new int[] {least, greatest, least - 1, greatest + 1}) {
            boolean taken = value >= least && value <= greatest;
            String got = answer(name, takes, number, value);
            Check.yes(name + " with " + number + " " + value + ": " + got,
                taken ? !got.startsWith("throws") : got.equals(refusal));
        }
    }

    private static String answer(String name, List<String> takes, String number, int value) throws Exception {
        Object[] given = new Object[takes.size()];
        for (int i = 0; i < given.length; i++) {
            String taken = takes.get(i);
            given[i] = taken.equals("byChart") ? (Object) false : taken.equals(number) ? value : taken.equals("months") ? 1 : 0;
        }
        Method method = Arrays.stream(ReefPilot.class.getMethods()).filter(one -> one.getName().equals(name)).findFirst()
            .orElseThrow();
        try {
            return "" + method.invoke(new ReefPilot(), given);
        } catch (InvocationTargetException thrown) {
            return "throws " + thrown.getCause().getClass().getSimpleName();
        }
    }

    // ---- how to run the tests

    private void places() {
        Matcher place = Pattern.compile("`((?:\\.|\\w)[\\w.]*/[\\w./]+)`").matcher(text);
        while (place.find()) {
            // What is shared may lie elsewhere for another reader; all else must be here.
            Check.yes(place.group(1) + " is there",
                place.group(1).startsWith("../") || Files.exists(Path.of(place.group(1))));
        }
    }

    private void listOfTests() throws IOException {
        Set<String> listed = new TreeSet<>();
        Matcher bullet = Pattern.compile("(?m)^- `(\\w+)`:").matcher(text);
        while (bullet.find()) {
            listed.add(bullet.group(1) + ".java");
        }
        try (Stream<Path> files = Files.list(Path.of("src/test/java"))) {
            Set<String> tests = files.map(file -> file.getFileName().toString()).filter(name -> name.endsWith("Test.java"))
                .collect(Collectors.toCollection(TreeSet::new));
            Check.yes("the tests listed are " + listed + ", there are " + tests, listed.equals(tests));
        }
    }

    private void commandsOfTests() throws IOException, InterruptedException {
        List<String> commands = blocks("sh");
        Check.same("blocks of commands", commands.size(), 3);
        Path script = Path.of(commands.get(1).trim());
        Check.yes(script + " can be run", Files.isExecutable(script));
        String says = Files.readString(script);
        Check.yes("it takes the project's tests", says.contains("own=(src/test/java/*Test.java)"));
        Check.yes("it takes the given tests", says.contains("given=(../shared/tests/**/*.java)"));
        run(Path.of("."), commands.get(2));
    }
}
