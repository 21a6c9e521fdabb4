import java.io.IOException;
import java.nio.file.Files;
import java.nio.file.Path;
import java.util.ArrayList;
import java.util.List;

/** That .ci/run lets nothing land that fails: small projects with the same script, each with one fault. */
public final class RunTest {
    private static final String ENDS_WELL = "System.out.println(new DrumTongue().count(2));";
    private static final String ENDS_BADLY = "System.exit(1);";
    private static final String THROWS = "throw new IllegalStateException(\"thrown to see that it is seen\");";
    private static final String DOES_NOT_COMPILE = "int x = \"\";";
    private static final String ALL_WELL = "3 passed, 0 failed";
    private static final String ONE_FAILS = "2 passed, 1 failed";

    private final String name;
    private final Path root;
    private final Path printed;
    private final String told;

    private RunTest(String name, String told) throws IOException {
        this.name = name;
        this.told = told;
        root = Files.createTempDirectory("run");
        printed = root.resolve("printed.txt");
    }

    public static void main(String[] args) throws IOException, InterruptedException {
        Path program = Path.of(args.length > 0 ? args[0] : "src/main/java/DrumTongue.java");
        List<RunTest> all = new ArrayList<>();
        all.add(project("all is well", ALL_WELL, program, ENDS_WELL, ENDS_WELL));
        all.add(project("a test of the project fails", ONE_FAILS, program, ENDS_BADLY, ENDS_WELL));
        all.add(project("a test of the project throws", ONE_FAILS, program, THROWS, ENDS_WELL));
        all.add(project("a test of the project does not compile", null, program, DOES_NOT_COMPILE, ENDS_WELL));
        all.add(project("a shared test fails", ONE_FAILS, program, ENDS_WELL, ENDS_BADLY));
        all.add(project("a shared test throws", ONE_FAILS, program, ENDS_WELL, THROWS));
        all.add(project("a shared test does not compile", ONE_FAILS, program, ENDS_WELL, DOES_NOT_COMPILE));
        all.add(project("no shared test is there", "1 passed, 1 failed", program, ENDS_WELL, null));
        all.add(project("no test of the project is there", null, program, null, ENDS_WELL));
        all.add(project("two tests fail", "1 passed, 2 failed", program, ENDS_BADLY, ENDS_BADLY));
        for (RunTest one : all) {
            one.run();
        }
        Checks.finish("RunTest");
    }

    /**
     * A project whose tests are one of its own and one shared, beside which another shared one ends well;
     * told: the last line due, null where the script has to end ahead of all tests.
     */
    private static RunTest project(String name, String told, Path program, String own, String shared)
            throws IOException {
        RunTest made = new RunTest(name, told);
        made.copy(Path.of(".ci/run"), "main/.ci/run");
        made.copy(program, "main/src/main/java/DrumTongue.java");
        made.write("main/src/test/java/", "OwnTest", own);
        made.write("shared/tests/", "Shared", shared);
        made.write("shared/tests/", "Well", shared == null ? null : ENDS_WELL);
        return made;
    }

    private void copy(Path from, String to) throws IOException {
        Path target = root.resolve(to);
        Files.createDirectories(target.getParent());
        Files.copy(from, target, java.nio.file.StandardCopyOption.COPY_ATTRIBUTES);
    }

    private void write(String folder, String test, String body) throws IOException {
        Files.createDirectories(root.resolve(folder));
        if (body != null) {
            Files.writeString(root.resolve(folder + test + ".java"),
                "public class " + test + " { public static void main(String[] args) { " + body + " } }\n");
        }
    }

    /** Started from another folder, since the script finds its project by itself. */
    private void run() throws IOException, InterruptedException {
        int code = Folders.start(root, printed, "bash", "main/.ci/run").waitFor();
        List<String> lines = Files.readAllLines(printed);
        String last = lines.isEmpty() ? "" : lines.get(lines.size() - 1);
        Checks.dueThat("exit code " + code + " where " + name + ": " + lines, code == 0 == ALL_WELL.equals(told));
        Checks.dueThat("what is told where " + name + ": " + lines,
            told == null ? !last.matches("\\d+ passed, \\d+ failed") : last.equals(told));
        Folders.remove(root);
    }
}
