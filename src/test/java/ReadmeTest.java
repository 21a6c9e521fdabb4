import java.io.IOException;
import java.lang.reflect.Method;
import java.lang.reflect.Modifier;
import java.nio.file.Files;
import java.nio.file.Path;
import java.util.ArrayList;
import java.util.List;
import java.util.TreeSet;
import java.util.regex.Matcher;
import java.util.regex.Pattern;

/** What README.md shows of the class's use, and its way to run the tests, hold as they are written there. */
public final class ReadmeTest {
    private static final Pattern CALL = Pattern.compile("(x\\.(\\w+)\\(.*\\)); +// (-?\\d+|[A-Z]+)(:.*)?");
    private static final Pattern ANSWER = Pattern.compile("\\| `([A-Z]+)` \\| (-\\d+) \\|.*");
    private static final String MADE = "DrumTongue x = new DrumTongue();";

    private final Path program;
    private final List<String> page;

    private ReadmeTest(Path program, List<String> page) {
        this.program = program;
        this.page = page;
    }

    public static void main(String[] args) throws IOException, InterruptedException {
        Path program = Path.of(args.length > 0 ? args[0] : "src/main/java/DrumTongue.java");
        ReadmeTest test = new ReadmeTest(program, Files.readAllLines(Path.of("README.md")));
        test.programThatUsesIt();
        test.callsWithTheirAnswers();
        test.answers();
        test.classesInside();
        test.wayToRunTheTests();
        Checks.finish("ReadmeTest");
    }

    /** The n-th block of that kind on the page. */
    private List<String> block(String kind, int n) {
        List<String> lines = new ArrayList<>();
        int seen = -1;
        boolean inside = false;
        for (String line : page) {
            if (inside && line.equals("```")) {
                inside = false;
            } else if (inside) {
                lines.add(line);
            } else if (line.equals("```" + kind)) {
                seen++;
                inside = seen == n;
            }
        }
        Checks.dueThat("README shows block " + n + " of " + kind, !lines.isEmpty());
        return lines;
    }

    /** The first column of the table with that head. */
    private TreeSet<String> firstColumn(String head) {
        TreeSet<String> names = new TreeSet<>();
        boolean inside = false;
        for (String line : page) {
            if (line.startsWith("| " + head + " |")) {
                inside = true;
            } else if (!line.startsWith("|")) {
                inside = false;
            } else if (inside && line.startsWith("| `")) {
                names.add(line.substring(3, line.indexOf('`', 3)));
            }
        }
        return names;
    }

    private void programThatUsesIt() throws IOException, InterruptedException {
        Path folder = Files.createTempDirectory("readme");
        Path copy = folder.resolve("src/main/java/DrumTongue.java");
        Files.createDirectories(copy.getParent());
        Files.copy(program, copy);
        Files.write(folder.resolve("Talk.java"), block("java", 0));
        List<String> printed = new ArrayList<>();
        for (String command : block("sh", 0)) {
            printed.addAll(Folders.run(folder, 0, command.split(" ")));
        }
        Checks.dueThat("Talk prints " + printed, printed.equals(block("text", 0)));
        Folders.remove(folder);
    }

    /** Each line becomes a comparison of the call with the answer behind it. */
    private void callsWithTheirAnswers() throws IOException, InterruptedException {
        List<String> source = new ArrayList<>(List.of("public class Shown {", "static int wrong = 0;",
            "static void due(String call, long got, long want) {",
            "if (got != want) { wrong++; System.out.println(call + \" answers \" + got + \", README shows \" + want); } }",
            "public static void main(String[] args) {"));
        TreeSet<String> called = new TreeSet<>();
        for (String line : block("java", 1)) {
            Matcher m = CALL.matcher(line);
            Checks.dueThat("a call with its answer: " + line, m.matches() || line.equals(MADE));
            if (m.matches()) {
                called.add(m.group(2));
                String due = m.group(3).matches("[A-Z]+") ? "DrumTongue." + m.group(3) : m.group(3) + "L";
                source.add("due(\"" + m.group(1) + "\", " + m.group(1) + ", " + due + ");");
            } else {
                source.add(line);
            }
        }
        source.addAll(List.of("System.exit(wrong > 0 ? 1 : 0); }", "}"));
        Checks.dueThat("README shows all calls: " + called, called.equals(publicCalls()));
        Path folder = Files.createTempDirectory("readme");
        Files.write(folder.resolve("Shown.java"), source);
        Folders.run(folder, 0, "javac", "-d", "out", program.toAbsolutePath().toString(), "Shown.java");
        for (String line : Folders.run(folder, 0, "java", "-cp", "out", "Shown")) {
            System.out.println(line);
        }
        Folders.remove(folder);
    }

    private static TreeSet<String> publicCalls() {
        TreeSet<String> names = new TreeSet<>();
        for (Method m : DrumTongue.class.getDeclaredMethods()) {
            if (Modifier.isPublic(m.getModifiers())) {
                names.add(m.getName());
            }
        }
        return names;
    }

    private void answers() throws IOException {
        String[] names = {"NONE", "BAD", "NO", "FULL", "SPENT"};
        int[] numbers = {DrumTongue.NONE, DrumTongue.BAD, DrumTongue.NO, DrumTongue.FULL, DrumTongue.SPENT};
        int found = 0;
        for (String line : page) {
            Matcher m = ANSWER.matcher(line);
            if (m.matches() && found < names.length) {
                Checks.dueThat("README's " + m.group(1), m.group(1).equals(names[found]));
                Checks.due("README's " + m.group(1), Integer.parseInt(m.group(2)), numbers[found]);
                found++;
            }
        }
        Checks.due("answers that README tells", found, names.length);
    }

    private void classesInside() {
        TreeSet<String> inside = new TreeSet<>();
        for (Class<?> c : DrumTongue.class.getDeclaredClasses()) {
            inside.add(c.getSimpleName());
        }
        Checks.dueThat("README tells of the classes " + inside, firstColumn("class inside").equals(inside));
    }

    private void wayToRunTheTests() throws IOException {
        List<String> commands = block("sh", 1);
        Checks.dueThat("one command", commands.size() == 1);
        Path command = Path.of(commands.get(0));
        Checks.dueThat(command + " can be run", Files.isRegularFile(command) && Files.isExecutable(command));
        TreeSet<String> tests = new TreeSet<>();
        try (var files = Files.newDirectoryStream(Path.of("src/test/java"), "*Test.java")) {
            for (Path file : files) {
                tests.add(file.getFileName().toString().replace(".java", ""));
            }
        }
        Checks.dueThat("README tells of the tests " + tests, firstColumn("test").equals(tests));
    }
}
