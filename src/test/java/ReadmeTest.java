import java.io.File;
import java.io.IOException;
import java.lang.reflect.InvocationTargetException;
import java.lang.reflect.Method;
import java.lang.reflect.Modifier;
import java.nio.file.Files;
import java.nio.file.Path;
import java.util.ArrayList;
import java.util.HashSet;
import java.util.List;
import java.util.Set;
import java.util.regex.Matcher;
import java.util.regex.Pattern;

/** What README.md says is so: its example answers as it says, and it tells of every test. */
public final class ReadmeTest extends Checks {
    private static final Pattern CALL = Pattern.compile("k\\.(\\w+)\\(([-0-9, ]*)\\);(?:\\s*//\\s*(.*))?");
    private static final Pattern JAVA_FILE = Pattern.compile("(\\w+)\\.java");
    private static final String FIRST_LINE = "SegmentKernel k = new SegmentKernel();";
    private static final int MOST_CALLS = 512;

    public static void main(String[] args) throws IOException {
        List<String> readme = Files.readAllLines(Path.of("README.md"));
        theExampleAnswersAsItSays(example(readme));
        theFilesAreThoseThatItNames(readme);
        finish("README.md is so");
    }

    /** The lines of the block of Java, without those that say nothing to the program. */
    private static List<String> example(List<String> readme) {
        List<String> lines = new ArrayList<>();
        boolean inside = false;
        for (String line : readme) {
            if (line.startsWith("```")) {
                inside = line.equals("```java");
            } else if (inside && !line.isBlank() && !line.startsWith("//")) {
                lines.add(line);
            }
        }
        return lines;
    }

    private static void theExampleAnswersAsItSays(List<String> lines) {
        sentence("README.md, Use");
        due("how many calls, if few enough", Math.min(lines.size() - 1, MOST_CALLS), lines.size() - 1);
        due("the first line", lines.isEmpty() ? "" : lines.get(0), FIRST_LINE);
        SegmentKernel k = new SegmentKernel();
        Set<String> called = new HashSet<>();
        for (int at = 1; at < lines.size(); at++) {
            Matcher call = CALL.matcher(lines.get(at));
            if (call.matches()) {
                called.add(call.group(1));
                dueAsSaid(k, call, lines.get(at));
            } else {
                due("a line that is a call", lines.get(at), "k.call(..); // answer");
            }
        }
        for (Method method : SegmentKernel.class.getDeclaredMethods()) {
            if (Modifier.isPublic(method.getModifiers())) {
                due("an example of " + method.getName(), called.contains(method.getName()), true);
            }
        }
    }

    private static void dueAsSaid(SegmentKernel k, Matcher call, String line) {
        Method method = methodOfName(call.group(1));
        if (method == null) {
            due(line, "no such method", "a method of the face");
            return;
        }
        String got = answer(k, method, numbers(call.group(2)));
        String said = call.group(3) == null ? "" : call.group(3).split(":")[0];
        if (method.getReturnType() != void.class) {
            due(line, got, said);
        } else {
            due(line, got, "null");
        }
    }

    private static Method methodOfName(String name) {
        for (Method method : SegmentKernel.class.getMethods()) {
            if (method.getName().equals(name)) {
                return method;
            }
        }
        return null;
    }

    private static Object[] numbers(String list) {
        if (list.isBlank()) {
            return new Object[0];
        }
        String[] texts = list.split(",");
        Object[] numbers = new Object[texts.length];
        for (int at = 0; at < texts.length; at++) {
            numbers[at] = Integer.valueOf(texts[at].trim());
        }
        return numbers;
    }

    private static String answer(SegmentKernel k, Method method, Object[] arguments) {
        try {
            return String.valueOf(method.invoke(k, arguments));
        } catch (InvocationTargetException e) {
            return "throws " + e.getCause().getClass().getSimpleName();
        } catch (IllegalAccessException | IllegalArgumentException e) {
            return "no call: " + e;
        }
    }

    private static void theFilesAreThoseThatItNames(List<String> readme) {
        sentence("README.md, Tests");
        Set<String> named = new HashSet<>();
        boolean inTests = false;
        for (String line : readme) {
            inTests |= line.equals("## Tests");
            Matcher file = JAVA_FILE.matcher(inTests ? line : "");
            while (file.find()) {
                named.add(file.group(1) + ".java");
            }
        }
        named.remove("SegmentKernel.java");
        // What is left of the pattern *Test.java.
        named.remove("Test.java");
        Set<String> there = new HashSet<>();
        for (String name : new File("src/test/java").list()) {
            there.add(name);
        }
        for (String name : named) {
            due(name + " is there", there.contains(name), true);
        }
        for (String name : there) {
            due(name + " is told of", named.contains(name), true);
        }
    }
}
