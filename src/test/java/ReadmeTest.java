import java.io.IOException;
import java.lang.reflect.InvocationTargetException;
import java.lang.reflect.Method;
import java.lang.reflect.Modifier;
import java.nio.file.Files;
import java.nio.file.Path;
import java.util.ArrayList;
import java.util.List;
import java.util.Map;
import java.util.Set;
import java.util.TreeSet;
import java.util.concurrent.TimeUnit;
import java.util.regex.Matcher;
import java.util.regex.Pattern;
import java.util.stream.Stream;

/** README.md: what it shows of the class and of its tests is so. */
public final class ReadmeTest {
    private static final String NEW_OBJECT = "SurplusMatch match = new SurplusMatch();";
    private static final Pattern CALL = Pattern.compile("match\\.(\\w+)\\(([-\\d, ]*)\\);(?:\\s+// (.*))?");
    private static final Pattern ROW = Pattern.compile("\\| `(\\w+ \\w+)\\(([^)]*)\\)` \\|.*\\| ?([a-z, ]*) ?\\|");
    private static final Map<Class<?>, String> REASONS = Map.of(
            IndexOutOfBoundsException.class, "index", IllegalStateException.class, "turn",
            IllegalArgumentException.class, "range", UnsupportedOperationException.class, "meaning");

    private static SurplusMatch match;

    public static void main(String[] args) throws IOException {
        String text = Files.readString(Path.of("README.md"));
        Check.sentence("the calls and their answers", () -> calls(blocks(text, "java")));
        Check.sentence("the table of calls", () -> table(text));
        Check.sentence("the commands", () -> commands(blocks(text, "sh")));
        Set<String> tests = testFiles();
        Check.sentence("the names of the tests", () -> Check.is("named in README.md", named(text), tests.toString()));
        Check.end();
    }

    private static List<String> blocks(String text, String language) {
        List<String> found = new ArrayList<>();
        Matcher block = Pattern.compile("(?s)```" + language + "\n(.*?)```").matcher(text);
        while (block.find()) {
            found.add(block.group(1));
        }
        return found;
    }

    private static void calls(List<String> blocks) {
        Set<String> shown = new TreeSet<>();
        for (String line : String.join("", blocks).split("\n")) {
            Matcher call = CALL.matcher(line);
            if (line.equals(NEW_OBJECT)) {
                match = new SurplusMatch();
            } else if (call.matches() && match != null) {
                shown.add(call.group(1));
                answer(line, face(call.group(1)), call.group(2), call.group(3) == null ? "" : call.group(3));
            } else {
                Check.is("a line that is no call", line, "");
            }
        }
        Check.is("every call is shown", shown.toString(), names().toString());
    }

    private static void answer(String line, Method method, String numbers, String remark) {
        Check.is("a call of the face: " + line, method != null, true);
        if (method != null) {
            String got = made(method, numbers);
            boolean isSilent = method.getReturnType() == void.class && !remark.matches("\\w+Exception\\b.*");
            Check.is(line, got, isSilent ? "null" : remark.replaceAll(":.*", ""));
        }
    }

    private static String made(Method method, String numbers) {
        String[] parts = numbers.isEmpty() ? new String[0] : numbers.split(", ");
        Object[] values = new Object[parts.length];
        for (int k = 0; k < parts.length; k++) {
            values[k] = Integer.valueOf(parts[k]);
        }
        try {
            return String.valueOf(method.invoke(match, values));
        } catch (InvocationTargetException e) {
            return e.getCause().getClass().getSimpleName();
        } catch (IllegalAccessException e) {
            return e.toString();
        }
    }

    private static void table(String text) {
        Set<String> told = new TreeSet<>();
        for (String line : text.split("\n")) {
            Matcher row = ROW.matcher(line);
            if (row.matches()) {
                int parameters = row.group(2).isEmpty() ? 0 : row.group(2).split(",").length;
                told.add(row.group(1) + " " + parameters + " " + row.group(3).trim());
            }
        }
        Set<String> due = new TreeSet<>();
        for (String name : names()) {
            Method method = face(name);
            List<String> reasons = new ArrayList<>();
            for (Class<?> type : method.getExceptionTypes()) {
                reasons.add(REASONS.get(type));
            }
            due.add(method.getReturnType() + " " + name + " " + method.getParameterCount() + " "
                    + String.join(", ", reasons));
        }
        Check.is("kinds, parameters and refusals", told.toString(), due.toString());
    }

    private static Set<String> names() {
        Set<String> names = new TreeSet<>();
        for (Method method : SurplusMatch.class.getDeclaredMethods()) {
            if (Modifier.isPublic(method.getModifiers())) {
                names.add(method.getName());
            }
        }
        return names;
    }

    private static Method face(String name) {
        for (Method method : SurplusMatch.class.getDeclaredMethods()) {
            if (Modifier.isPublic(method.getModifiers()) && method.getName().equals(name)) {
                return method;
            }
        }
        return null;
    }

    /** The first is .ci/run, which runs this very test: it is only looked at. */
    private static void commands(List<String> blocks) {
        Check.is("blocks of commands", blocks.size(), 3);
        for (String block : blocks) {
            if (block.equals(".ci/run\n")) {
                Check.is(".ci/run can be run", Files.isExecutable(Path.of(".ci/run")), true);
            } else {
                Check.is("exit code of " + block, exitCode(block), 0);
            }
        }
    }

    private static int exitCode(String block) {
        try {
            // With -e, so that a command that fails ahead of the last one is seen too.
            String script = block + "rm -r \"$out\"\n";
            Process process = new ProcessBuilder("bash", "-e", "-c", script).redirectErrorStream(true)
                    .redirectOutput(ProcessBuilder.Redirect.DISCARD).start();
            return process.waitFor(5, TimeUnit.MINUTES) ? process.exitValue() : -1;
        } catch (IOException | InterruptedException e) {
            return -1;
        }
    }

    private static Set<String> testFiles() throws IOException {
        Set<String> names = new TreeSet<>();
        try (Stream<Path> files = Files.list(Path.of("src/test/java"))) {
            files.map(file -> file.getFileName().toString()).filter(name -> name.endsWith("Test.java"))
                    .forEach(name -> names.add(name.replace(".java", "")));
        }
        return names;
    }

    private static String named(String text) {
        Set<String> names = new TreeSet<>();
        for (Matcher name = Pattern.compile("`(\\w+Test)`").matcher(text); name.find();) {
            names.add(name.group(1));
        }
        return names.toString();
    }
}
