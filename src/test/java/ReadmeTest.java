import java.io.IOException;
import java.lang.reflect.Field;
import java.lang.reflect.Method;
import java.lang.reflect.Modifier;
import java.nio.file.DirectoryStream;
import java.nio.file.Files;
import java.nio.file.Path;

/** What README.md says of the class: each line of its example is called here, with the answer that it tells. */
public final class ReadmeTest {
    private final String page;
    private final PracticeSheets sheets = new PracticeSheets();

    private ReadmeTest(String page) {
        this.page = page;
    }

    public static void main(String[] args) throws IOException {
        ReadmeTest test = new ReadmeTest(Files.readString(Path.of("README.md")));
        test.example();
        test.namesTheFace();
        test.namesTheTests();
        Check.end();
    }

    private void example() {
        typed("ab!-b");
        told("sheets.write();", "2 slips", sheets.write(), 2);
        told("sheets.clearText();", "5 characters", sheets.clearText(), 5);
        typed("abba,bee");
        told("sheets.addWords();", "2 words", sheets.addWords(), 2);
        told("sheets.letter('b', 2);", "25, ", sheets.letter('b', 2), 25);
        told("sheets.join('b', 'b', 2);", "33", sheets.join('b', 'b', 2), 33);
        told("sheets.sheet(2, 0, 0);", "0: ", sheets.sheet(2, 0, 0), 0);
        told("sheets.sheet(2, 0, 1);", "63, ", sheets.sheet(2, 0, 1), 63);
        told("sheets.sheetsTo(2, 20);", "2 sheets", sheets.sheetsTo(2, 20), 2);
        told("sheets.doSheet(2);", "2 lines", sheets.doSheet(2), 2);
        told("sheets.letter('b', 2);", "14", sheets.letter('b', 2), 14);
        told("sheets.undo();", "2 states", sheets.undo(), 2);
        told("sheets.pass(21);", "BAD_VALUE", sheets.pass(21), Check.BAD);
    }

    private void typed(String text) {
        named("for (char sign : \"" + text + "\".toCharArray())");
        for (char sign : text.toCharArray()) {
            sheets.type(sign);
        }
    }

    private void told(String call, String told, int got, int want) {
        boolean isTold = false;
        for (String line : page.split("\n")) {
            isTold |= line.startsWith(call) && line.contains("// " + told);
        }
        Check.due("README.md tells " + call + " // " + told, isTold);
        Check.due("README.md: " + call, got, want);
    }

    private void namesTheFace() {
        for (Method method : PracticeSheets.class.getDeclaredMethods()) {
            if (Modifier.isPublic(method.getModifiers())) {
                named("`" + method.getName());
            }
        }
        for (Field field : PracticeSheets.class.getDeclaredFields()) {
            if (Modifier.isPublic(field.getModifiers())) {
                named("`" + field.getName() + "` (" + constant(field) + ")");
            }
        }
    }

    private static int constant(Field field) {
        try {
            return field.getInt(null);
        } catch (IllegalAccessException hidden) {
            Check.due(field.getName() + " can be read", false);
            return 0;
        }
    }

    private void namesTheTests() throws IOException {
        try (DirectoryStream<Path> tests = Files.newDirectoryStream(Path.of("src/test/java"), "*Test.java")) {
            for (Path test : tests) {
                named("`" + test.getFileName().toString().replace(".java", "") + "`");
            }
        }
    }

    private void named(String what) {
        Check.due("README.md names " + what, page.contains(what));
    }
}
