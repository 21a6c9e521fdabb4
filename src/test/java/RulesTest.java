import java.io.IOException;
import java.nio.file.Files;
import java.nio.file.Path;
import java.util.regex.Matcher;
import java.util.regex.Pattern;

/** What of ../shared/LANGUAGE.md can be seen in the text of the program alone. */
public final class RulesTest {
    private static final int MOST_LINES_OF_A_METHOD = 60;
    private static final int MOST_CLASSES = 12;
    private static final String[] NEVER = {
        "\\bthrow\\b", "\\bthrows\\b", "\\btry\\b", "\\bcatch\\b", "\\bfinally\\b", "\\bsynchronized\\b",
        "\\bassert\\b", "->", "::", "Exact\\b", "\\binstanceof\\b", "\\bObject\\b", "\\bpackage\\b",
        "\\bSystem\\.(?!arraycopy\\b)", "\\bMath\\.(?!min\\b|max\\b|abs\\b)", "\\bInteger\\.(?!bitCount\\b)",
        "\\bArrays\\.(?!fill\\b)", "\\bimport (?!java\\.util\\.Arrays;)", "\\bprotected\\b", "\\bnew int\\[[a-z]",
        "\\bstatic \\{", "\\bequals\\b", "\\bhashCode\\b", "\\btoString\\b", "\\bclone\\b", "\\bThread\\b"};

    private RulesTest() {
    }

    public static void main(String[] args) throws IOException {
        String path = args.length > 0 ? args[0] : "src/main/java/DrumTongue.java";
        String text = Files.readString(Path.of(path));
        String code = text.replaceAll("(?s)/\\*.*?\\*/", "").replaceAll("//[^\n]*", "");
        for (String never : NEVER) {
            Matcher m = Pattern.compile(never).matcher(code);
            Checks.dueThat("nothing like " + never + " in the program", !m.find());
        }
        Checks.dueThat("ASCII alone", text.chars().allMatch(c -> c == '\n' || c >= 32 && c < 127));
        classes(code);
        methods(text);
        privateNames(code);
        Checks.finish("RulesTest");
    }

    private static void classes(String code) {
        Matcher m = Pattern.compile("(?m)^ *(.*)\\b(class|record|enum|interface) \\w+").matcher(code);
        int found = 0;
        while (m.find()) {
            found++;
            String before = m.group(1);
            Checks.dueThat("static or the one public class: " + m.group(),
                before.startsWith("public final") || before.contains("static"));
        }
        Checks.dueThat("classes: " + found, found >= 1 && found <= MOST_CLASSES);
        Matcher fields = Pattern.compile("(?m)^ *(private |public )?static (?!final)[^(]*[;=]").matcher(code);
        Checks.dueThat("static fields are final", !fields.find());
    }

    private static void methods(String text) {
        int start = -1;
        String[] lines = text.split("\n");
        for (int i = 0; i < lines.length; i++) {
            String line = lines[i];
            if (line.matches(" {4,8}(private |public |static )*[\\w\\[\\]]+ \\w+\\(.*\\) \\{")) {
                start = i;
                Checks.dueThat("at most seven parameters: " + line, line.split(",").length <= 7);
            }
            if (start >= 0 && line.matches(" {4,8}\\}")) {
                Checks.dueThat("short: line " + start, i - start <= MOST_LINES_OF_A_METHOD);
                start = -1;
            }
        }
    }

    private static void privateNames(String code) {
        Matcher publics = Pattern.compile("public (?:int|long) (\\w+)\\(").matcher(code);
        int found = 0;
        while (publics.find()) {
            found++;
            String again = "private [\\w\\[\\] ]*\\b" + publics.group(1) + "\\(";
            Checks.dueThat("no private " + publics.group(1), !Pattern.compile(again).matcher(code).find());
        }
        Checks.due("public methods", found, 25);
    }
}
