import java.nio.file.Files;
import java.nio.file.Path;
import java.util.regex.Matcher;
import java.util.regex.Pattern;

/** README.md: its example answers what it says, its text can be read, and it names every call and every test. */
public final class ReadmeTests {
    public static void main(String[] args) throws Exception {
        String page = Files.readString(Path.of("README.md"));
        Cases.test(23, "the example of README.md", ReadmeTests::example);
        Cases.test(7, "the text of README.md", b -> {
            Cases.due("text()", Cases.read(b, textOf(page)), 0);
            Cases.due("by(0)", b.by(0), true);
            Cases.due("played(0)", b.played(0), Cases.NONE);
            Cases.due("about(4), a going and two hours", b.about(4), 3);
        });
        Cases.test(1, "README.md names every call", b -> {
            for (java.lang.reflect.Method m : BoroughBeam.class.getDeclaredMethods()) {
                if (java.lang.reflect.Modifier.isPublic(m.getModifiers())) {
                    Cases.due(m.getName() + " is named", page.contains("`" + m.getName() + "`"), true);
                }
            }
        });
        java.io.File[] tests = Path.of("src/test/java").toFile().listFiles();
        Cases.test(1, "README.md names every test", b -> {
            for (java.io.File test : tests) {
                Cases.due(test + " is named", page.contains("`" + test.getName().replace(".java", "") + "`"), true);
            }
        });
        Cases.finish(1, 7, 23);
    }

    private static void example(BoroughBeam b) {
        int baker = b.person(3, 4);
        b.person(5, 4);
        Cases.due("walk(baker, true)", b.walk(baker, true), true);
        Cases.due("is(2)", b.is(2), 3);
        b.goal(baker, 8);
        Cases.due("errands(true, NONE)", b.errands(true, Cases.NONE), 3);
        Cases.due("errands(true, 0)", b.errands(true, 0), 1);
        Cases.due("hour(10)", b.hour(10), 0);
        Cases.due("undo()", b.undo(), 10);
    }

    private static String textOf(String page) {
        Matcher text = Pattern.compile("```text\n(tips [^`]*)```").matcher(page);
        return text.find() ? text.group(1) : "there is none";
    }
}
