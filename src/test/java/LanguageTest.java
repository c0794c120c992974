import java.io.IOException;
import java.lang.reflect.Executable;
import java.lang.reflect.Field;
import java.lang.reflect.Modifier;
import java.nio.file.Files;
import java.nio.file.Path;
import java.util.ArrayList;
import java.util.Arrays;
import java.util.List;
import java.util.Set;
import java.util.regex.MatchResult;
import java.util.regex.Pattern;

/** The rules of ../shared/LANGUAGE.md that the program's text and its classes show. */
public final class LanguageTest {
    private static final Path PROGRAM = Path.of("src/main/java/StableSale.java");
    private static final int MOST_LINES = 60;
    private static final int MOST_PARAMETERS = 7;
    private static final int MOST_CLASSES = 12;
    private static final int MOST_FIELDS = 20;

    private static final Set<String> IMPORTS = Set.of("java.util.Arrays", "java.util.NoSuchElementException");
    private static final Set<String> LIBRARY = Set.of("Arrays.fill", "Math.max", "Math.min", "System.arraycopy");
    private static final Set<String> EXCEPTIONS = Set.of("IllegalStateException", "IllegalArgumentException",
            "NoSuchElementException");
    private static final Set<String> FIELD_TYPES = Set.of("int", "long", "boolean", "int[]", "long[]", "boolean[]",
            "int[][]");

    public static void main(String[] args) throws IOException {
        Check t = new Check();
        String text = withoutComments(Files.readString(PROGRAM));
        whatIsNotWritten(t, text);
        onlyTheListedLibrary(t, text);
        onlyWrittenExceptions(t, text);
        shortMethods(t, text);
        for (Class<?> one : classes()) {
            fields(t, one);
            parameters(t, one);
        }
        if (classes().size() > MOST_CLASSES) {
            t.report("there are " + classes().size() + " classes");
        }
        t.end();
    }

    private static String withoutComments(String text) {
        return text.replaceAll("(?s)/\\*.*?\\*/", "").replaceAll("//.*", "");
    }

    private static List<Class<?>> classes() {
        List<Class<?>> all = new ArrayList<>(Arrays.asList(StableSale.class.getDeclaredClasses()));
        all.add(StableSale.class);
        return all;
    }

    private static List<String> found(String pattern, String text) {
        return Pattern.compile(pattern).matcher(text).results().map(MatchResult::group).toList();
    }

    /** Rules 2, 5, 6, 10 and 13; the program needs no text, no double and no try either. */
    private static void whatIsNotWritten(Check t, String text) {
        String words = "\\b(package|try|catch|finally|synchronized|assert|native|volatile|transient|double|float"
                + "|Object|String|Thread|Random|instanceof|equals|hashCode|toString|getClass|var|yield)\\b";
        for (String one : found(words + "|->|::|\"|@|\\bstatic\\s*\\{|\\bwhile\\s*\\(\\s*true|\\bfor\\s*\\(\\s*;", text)) {
            t.report("the program has " + one);
        }
    }

    /** Rule 4: what is asked of a class by name is listed there or is one of the program's own. */
    private static void onlyTheListedLibrary(Check t, String text) {
        for (String line : found("(?m)^import .*;$", text)) {
            if (!IMPORTS.contains(line.substring("import ".length(), line.length() - 1))) {
                t.report(line);
            }
        }
        Set<String> own = Set.of("Sharing.sumOf");
        for (String call : found("\\b[A-Z]\\w*\\.\\w+(?=\\()", text)) {
            if (!LIBRARY.contains(call) && !own.contains(call)) {
                t.report("the program calls " + call);
            }
        }
    }

    /** Rule 6: only new ones are thrown, without a text or with a written one. */
    private static void onlyWrittenExceptions(Check t, String text) {
        for (String thrown : found("\\bthrow\\b[^;]*;", text)) {
            String name = thrown.replaceAll("throw new (\\w+)\\(\\);", "$1");
            if (!EXCEPTIONS.contains(name)) {
                t.report("the program has " + thrown);
            }
        }
    }

    /** Rule 11: from a line that opens a method to the brace that stands below its beginning. */
    private static void shortMethods(Check t, String text) {
        String[] lines = text.split("\n");
        for (int i = 0; i < lines.length; i++) {
            String indent = lines[i].replaceAll("\\S.*", "");
            boolean opensMethod = lines[i].matches("\\s+(public |private |static )*\\w+(\\[\\])* ?\\w*\\([^;]*");
            int end = i;
            while (opensMethod && end + 1 < lines.length && !lines[end].equals(indent + "}")) {
                end++;
            }
            if (end - i >= MOST_LINES) {
                t.report("a method of " + (end - i + 1) + " lines: " + lines[i].trim());
            }
        }
    }

    /** Rules 3, 5 and 11. */
    private static void fields(Check t, Class<?> one) {
        int own = 0;
        for (Field field : one.getDeclaredFields()) {
            if (field.isSynthetic()) {
                continue;
            }
            boolean constant = Modifier.isStatic(field.getModifiers());
            own += constant ? 0 : 1;
            if (constant && !Modifier.isFinal(field.getModifiers())) {
                t.report(field + " is static state");
            }
            if (!FIELD_TYPES.contains(field.getType().getSimpleName()) && !isOwn(field.getType())) {
                t.report(field + " has a type that the language has not");
            }
        }
        if (own > MOST_FIELDS) {
            t.report(one + " has " + own + " fields");
        }
    }

    private static boolean isOwn(Class<?> type) {
        Class<?> element = type.isArray() ? type.getComponentType() : type;
        return element.getName().startsWith("StableSale");
    }

    /** Rule 11. */
    private static void parameters(Check t, Class<?> one) {
        List<Executable> all = new ArrayList<>(Arrays.asList(one.getDeclaredMethods()));
        all.addAll(Arrays.asList(one.getDeclaredConstructors()));
        for (Executable each : all) {
            if (each.getParameterCount() > MOST_PARAMETERS) {
                t.report(each + " has " + each.getParameterCount() + " parameters");
            }
        }
    }
}
