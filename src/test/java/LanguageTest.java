import java.io.IOException;
import java.lang.reflect.Executable;
import java.lang.reflect.Field;
import java.lang.reflect.Method;
import java.lang.reflect.Modifier;
import java.nio.file.Files;
import java.nio.file.Path;
import java.util.ArrayList;
import java.util.Arrays;
import java.util.List;
import java.util.Set;
import java.util.regex.Matcher;
import java.util.regex.Pattern;

/** The program keeps to those rules of LANGUAGE.md that its text and its classes show. */
public final class LanguageTest extends Checks {
    private static final Path PROGRAM = Path.of("src/main/java/SegmentKernel.java");
    private static final int MOST_PARAMETERS = 7;
    private static final int MOST_LINES = 60;
    private static final int MOST_CLASSES = 12;
    private static final int MOST_FIELDS = 20;
    private static final Set<String> EXCEPTIONS = Set.of("IllegalStateException", "IllegalArgumentException",
        "IndexOutOfBoundsException", "ArithmeticException", "UnsupportedOperationException",
        "NoSuchElementException", "RuntimeException");
    private static final Set<String> LIBRARY = Set.of("Math.max", "Math.min");
    private static final Set<Class<?>> CONSTANTS = Set.of(int.class, long.class, boolean.class, char.class,
        String.class, int[].class, long[].class, char[].class, byte[].class);
    private static final String[] NO_WORDS = {"import", "package", "finally", "synchronized", "assert", "native",
        "volatile", "transient", "protected", "instanceof", "try", "catch"};
    private static final String[] NO_SIGNS = {"->", "::", "static {", "[][][]", "\""};

    public static void main(String[] args) throws IOException {
        List<String> lines = new ArrayList<>();
        for (String line : Files.readAllLines(PROGRAM)) {
            lines.add(withoutComment(line));
        }
        List<Class<?>> classes = new ArrayList<>(Arrays.asList(SegmentKernel.class.getDeclaredClasses()));
        classes.add(SegmentKernel.class);
        namesAndSizes(classes);
        staticFields(classes);
        words(lines);
        exceptionsAndLibrary(lines);
        lengths(lines);
        finish("the program keeps to the rules that can be seen");
    }

    private static String withoutComment(String line) {
        String start = line.trim();
        return start.startsWith("//") || start.startsWith("*") || start.startsWith("/*") ? "" : line;
    }

    private static void namesAndSizes(List<Class<?>> classes) {
        sentence("rules 1 and 11");
        due("at most twelve classes", classes.size() <= MOST_CLASSES, true);
        for (Class<?> one : classes) {
            int fields = 0;
            for (Field field : one.getDeclaredFields()) {
                fields += Modifier.isStatic(field.getModifiers()) ? 0 : 1;
            }
            due(one.getName() + ": at most twenty fields", fields <= MOST_FIELDS, true);
            for (Executable made : one.getDeclaredConstructors()) {
                due(made + ": at most seven parameters", made.getParameterCount() <= MOST_PARAMETERS, true);
            }
            for (Method method : one.getDeclaredMethods()) {
                due(method + ": at most seven parameters", method.getParameterCount() <= MOST_PARAMETERS, true);
                boolean isFace = one == SegmentKernel.class && Modifier.isPublic(method.getModifiers());
                due(method + ": a name of its own", isFace || !isNameOfFace(method.getName()), true);
            }
        }
    }

    private static boolean isNameOfFace(String name) {
        for (Method method : SegmentKernel.class.getDeclaredMethods()) {
            if (Modifier.isPublic(method.getModifiers()) && method.getName().equals(name)) {
                return true;
            }
        }
        return false;
    }

    private static void staticFields(List<Class<?>> classes) {
        sentence("rule 5");
        for (Class<?> one : classes) {
            for (Field field : one.getDeclaredFields()) {
                if (Modifier.isStatic(field.getModifiers())) {
                    due(field + " is final", Modifier.isFinal(field.getModifiers()), true);
                    due(field + " is a constant", CONSTANTS.contains(field.getType()), true);
                }
            }
        }
    }

    /** Some of these would be allowed; but the program does without, and so the rules on them hold. */
    private static void words(List<String> lines) {
        sentence("rules 2, 4, 5, 6 and 13");
        for (String line : lines) {
            for (String word : NO_WORDS) {
                due(line, Pattern.compile("\\b" + word + "\\b").matcher(line).find(), false);
            }
            for (String sign : NO_SIGNS) {
                due(line, line.contains(sign), false);
            }
        }
    }

    private static void exceptionsAndLibrary(List<String> lines) {
        sentence("rules 4 and 6");
        Pattern thrown = Pattern.compile("\\bthrow (?:new (\\w+)\\(\\);)?");
        Pattern used = Pattern.compile("\\b([A-Z]\\w*[a-z]\\w*\\.\\w+)\\(");
        for (String line : lines) {
            Matcher exception = thrown.matcher(line);
            if (exception.find()) {
                due(line, exception.group(1) != null && EXCEPTIONS.contains(exception.group(1)), true);
            }
            Matcher call = used.matcher(line);
            while (call.find()) {
                due(line, LIBRARY.contains(call.group(1)), true);
            }
        }
    }

    private static void lengths(List<String> lines) {
        sentence("rule 11");
        int methods = 0;
        for (int at = 0; at < lines.size(); at++) {
            String line = lines.get(at);
            String indent = line.substring(0, line.length() - line.stripLeading().length());
            boolean isMember = indent.length() == 4 || indent.length() == 8;
            if (isMember && line.matches("\\s*[\\w\\[\\] ]+\\(.*") && !line.matches("\\s*(if|for|while|switch)\\b.*")
                    && !line.endsWith(";")) {
                int length = lines.subList(at, lines.size()).indexOf(indent + "}") + 1;
                due(line + " is short", length > 0 && length <= MOST_LINES, true);
                methods++;
            }
        }
        due("methods are found", methods > 50, true);
    }
}
