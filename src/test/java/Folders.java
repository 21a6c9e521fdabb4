import java.io.IOException;
import java.nio.file.Files;
import java.nio.file.Path;
import java.util.Comparator;
import java.util.List;
import java.util.stream.Stream;

/** Commands that are run in a folder of their own. */
final class Folders {
    private Folders() {
    }

    static Process start(Path folder, Path printed, String... command) throws IOException {
        return new ProcessBuilder(command).directory(folder.toFile()).redirectErrorStream(true)
            .redirectOutput(printed.toFile()).start();
    }

    /** Runs a command to its end and gives what it printed; its exit code has to be as due. */
    static List<String> run(Path folder, int due, String... command) throws IOException, InterruptedException {
        Path printed = Files.createTempFile("printed", ".txt");
        int code = start(folder, printed, command).waitFor();
        List<String> lines = Files.readAllLines(printed);
        Files.delete(printed);
        Checks.due("exit code of " + String.join(" ", command) + " " + (code == due ? "" : lines), code, due);
        return lines;
    }

    static void remove(Path folder) throws IOException {
        try (Stream<Path> all = Files.walk(folder)) {
            for (Path path : all.sorted(Comparator.reverseOrder()).toList()) {
                Files.delete(path);
            }
        }
    }
}
