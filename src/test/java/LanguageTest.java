import java.io.IOException;
import java.nio.file.Files;
import java.nio.file.Path;
import java.util.List;
import java.util.regex.Pattern;

/** Rules of LANGUAGE.md that can be seen in the text of the class. Runs in the project's own directory. */
public final class LanguageTest {
    private static final String SOURCE = "src/main/java/GuestPages.java";
    private static final String[] NEVER = {"->", "::", "\\bsynchronized\\b", "\\bfinally\\b", "\\btry\\b", "\\bcatch\\b",
        "\\bassert\\b", "\\bvar\\b", "Exact\\(", "\\bpackage\\b", "\\bprotected\\b", "System\\.(?!arraycopy)", "\\bThread\\b",
        "\\bRandom\\b", "\\bObject\\b", "\\bthrow (?!new (NoSuchElement|IllegalArgument)Exception\\(\\);)",
        "^\\s*static \\{", "\\bstatic (?!final|int|void|boolean)", "import (?!java\\.util\\.(Arrays|NoSuchElementException);)"};

    private static int wrong = 0;

    public static void main(String[] args) throws IOException {
        List<String> lines = Files.readAllLines(Path.of(SOURCE));
        int classes = 0;
        int begin = -1;
        for (int i = 0; i < lines.size(); i++) {
            String line = lines.get(i);
            if (line.trim().startsWith("*") || line.trim().startsWith("/**")) {
                continue;
            }
            for (String never : NEVER) {
                say(!Pattern.compile(never).matcher(line).find(), i, never);
            }
            say(line.chars().allMatch(c -> c < 128), i, "signs above 127");
            classes += line.matches(".*\\bclass \\w+ \\{") ? 1 : 0;
            if (line.matches(" {4,8}(?! ).*\\).*\\{") && !line.contains("class ")) {
                begin = i;
                say(line.chars().filter(c -> c == ',').count() < 7, i, "more than seven parameters");
            }
            if (begin >= 0 && line.matches(" {4,8}\\}")) {
                say(i - begin < 60, i, "a method of more than sixty lines");
                begin = -1;
            }
        }
        say(classes <= 12, lines.size(), "more than twelve classes");
        System.out.println(wrong == 0 ? "the class keeps to these rules" : "the class does not keep to the rules");
        System.exit(wrong == 0 ? 0 : 1);
    }

    private static void say(boolean good, int line, String what) {
        if (!good) {
            wrong++;
            System.out.println("line " + (line + 1) + ": " + what);
        }
    }
}
