import java.io.IOException;
import java.lang.reflect.Constructor;
import java.lang.reflect.Field;
import java.lang.reflect.Method;
import java.lang.reflect.Modifier;
import java.nio.file.Files;
import java.nio.file.Path;
import java.util.ArrayList;
import java.util.List;
import java.util.Set;
import java.util.TreeSet;
import java.util.regex.Matcher;
import java.util.regex.Pattern;

/** The face of the class, and those rules of LANGUAGE.md that can be seen from names and words of the source. */
public final class FaceTest {
    private static final String[] FACE = {
        "int write()", "int pass(int)", "int setUntried(int)", "int addWords()", "int removeWord(int)",
        "int doSheet(int)", "int type(char)", "int clearText()", "int undo()", "int keep()", "int restore()",
        "int letter(char,int)", "int join(char,char,int)", "int word(int,int)", "int letterOf(int,int)",
        "int sheet(int,int,int)", "int covers(int,int)", "int worst(boolean,int)", "int missing(boolean)",
        "int sheetsTo(int,int)", "int count(int)"};
    private static final String[] FORBIDDEN = {
        "throw", "throws", "try", "catch", "finally", "synchronized", "assert", "import", "package", "native",
        "volatile", "transient", "equals", "hashCode", "toString", "yield", "var", "record", "sealed"};

    public static void main(String[] args) throws IOException {
        members();
        constants();
        classesInside();
        words();
        Check.end();
    }

    private static boolean isOpen(int modifiers) {
        return !Modifier.isPrivate(modifiers);
    }

    private static void members() {
        Class<?> face = PracticeSheets.class;
        Check.due("public and final", Modifier.isPublic(face.getModifiers()) && Modifier.isFinal(face.getModifiers()));
        Set<String> methods = new TreeSet<>();
        Set<String> names = new TreeSet<>();
        for (Method method : face.getDeclaredMethods()) {
            if (isOpen(method.getModifiers())) {
                Check.due(method.getName() + " is public", Modifier.isPublic(method.getModifiers()));
                methods.add(told(method));
                names.add(method.getName());
            }
        }
        Check.same("methods", methods.toString(), new TreeSet<>(List.of(FACE)).toString());
        for (Method method : face.getDeclaredMethods()) {
            if (!isOpen(method.getModifiers())) {
                Check.due(method.getName() + " is no public name", !names.contains(method.getName()));
            }
        }
        Constructor<?>[] constructors = face.getDeclaredConstructors();
        Check.due("constructors", constructors.length, 1);
        Check.due("public constructor", Modifier.isPublic(constructors[0].getModifiers()));
        Check.due("without arguments", constructors[0].getParameterCount(), 0);
    }

    private static String told(Method method) {
        List<String> types = new ArrayList<>();
        for (Class<?> type : method.getParameterTypes()) {
            types.add(type.getName());
        }
        return method.getReturnType().getName() + " " + method.getName() + "(" + String.join(",", types) + ")";
    }

    private static void constants() {
        Check.due("UNKNOWN", PracticeSheets.UNKNOWN, -1);
        Check.due("BAD_VALUE", PracticeSheets.BAD_VALUE, -2);
        Check.due("FULL", PracticeSheets.FULL, -3);
        Check.due("NOT_POSSIBLE", PracticeSheets.NOT_POSSIBLE, -4);
        Check.due("NONE", PracticeSheets.NONE, -5);
        int open = 0;
        for (Field field : PracticeSheets.class.getDeclaredFields()) {
            open += isOpen(field.getModifiers()) ? 1 : 0;
            if (Modifier.isStatic(field.getModifiers())) {
                Check.due(field.getName() + " is final", Modifier.isFinal(field.getModifiers()));
            }
        }
        Check.due("constants that are not private", open, 5);
    }

    private static void classesInside() {
        Class<?>[] inside = PracticeSheets.class.getDeclaredClasses();
        Check.due("some twelve classes", inside.length < 12);
        for (Class<?> nested : inside) {
            Check.due(nested + " is static", Modifier.isStatic(nested.getModifiers()));
            Check.due(nested + " is private", Modifier.isPrivate(nested.getModifiers()));
            Check.due(nested + " has some twenty fields", nested.getDeclaredFields().length <= 20);
        }
    }

    private static void words() throws IOException {
        String source = Files.readString(Path.of("src/main/java/PracticeSheets.java"));
        String code = source.replaceAll("(?s)/\\*.*?\\*/", "").replaceAll("//[^\n]*", "");
        for (String word : FORBIDDEN) {
            Matcher found = Pattern.compile("\\b" + word + "\\b").matcher(code);
            Check.due("the source has no '" + word + "'", !found.find());
        }
        Check.due("no lambda, no method reference", !code.contains("->") && !code.contains("::"));
        Check.due("no text", !code.contains("\""));
        for (String line : source.split("\n")) {
            Check.due("line of at most 120 characters: " + line, line.length() <= 120);
        }
        methodsAreShort(code);
    }

    /** Counts the lines of each method, from its head to the brace that stands below its head. */
    private static void methodsAreShort(String code) {
        Matcher method = Pattern.compile("(?m)^( +)[^\n=;]*\\) \\{\n(?s:.*?)^\\1\\}$").matcher(code);
        int found = 0;
        while (method.find()) {
            int lines = method.group().split("\n").length;
            Check.due("some sixty lines: " + method.group().split("\n")[0], lines <= 60);
            found++;
        }
        Check.due("methods were found", found > 60);
    }
}
