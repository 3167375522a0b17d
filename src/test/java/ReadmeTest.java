import java.nio.charset.StandardCharsets;
import java.nio.file.Files;
import java.nio.file.Path;
import java.util.regex.Matcher;
import java.util.regex.Pattern;

/** What README.md shows is so, and its list of tests has all of them; it is run from the project's root. */
public final class ReadmeTest {
    private static final Due DUE = new Due("ReadmeTest");

    public static void main(String[] args) throws Exception {
        String readme = Files.readString(Path.of("README.md"), StandardCharsets.UTF_8);
        example(readme);
        tests(readme);
        DUE.end();
    }

    private static void example(String readme) {
        FogSchool x = new FogSchool();
        x.fog(0, 3);
        int head = x.keeper(1, 5);
        int child = x.child(8, 5);
        DUE.is("the head's number", head, 0);
        shown(readme, "x.go(7);", x.go(7));
        shown(readme, "x.ofChild(child, 2);", x.ofChild(child, 2));
        shown(readme, "x.learns(child, 4);", x.learns(child, 4));
        shown(readme, "x.go(0);", x.go(0));
        shown(readme, "x.status(0);", x.status(0));
        String text = "head at 5 note 3; child at 8; fog 0 3";
        DUE.holds("README shows the text " + text, readme.contains("`" + text + "`"));
        DUE.is(text, Due.read(x, text), 3);
    }

    /** Behind the call, and in its comment first, the README tells the answer. */
    private static void shown(String readme, String call, int answer) {
        Matcher line = Pattern.compile(Pattern.quote(call) + " *// (-?[0-9]+)").matcher(readme);
        boolean isShown = line.find();
        DUE.holds("README shows " + call, isShown);
        if (isShown) {
            DUE.is(call, answer, Integer.parseInt(line.group(1)));
        }
    }

    private static void tests(String readme) throws Exception {
        try (var files = Files.list(Path.of("src/test/java"))) {
            for (Path file : (Iterable<Path>) files::iterator) {
                String name = file.getFileName().toString().replace(".java", "");
                DUE.holds("README tells of " + name, readme.contains("`" + name + "`"));
            }
        }
    }
}
