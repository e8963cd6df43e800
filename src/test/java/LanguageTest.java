import java.io.IOException;
import java.lang.reflect.Constructor;
import java.lang.reflect.Field;
import java.lang.reflect.Method;
import java.lang.reflect.Modifier;
import java.nio.file.Files;
import java.nio.file.Path;
import java.util.ArrayList;
import java.util.List;
import java.util.regex.Matcher;
import java.util.regex.Pattern;

/** The rules of LANGUAGE.md that can be seen from the source's text and from the compiled classes. */
public final class LanguageTest {
    private static final String SOURCE = "src/main/java/SurplusMatch.java";
    private static final String REFUSAL = "throw new (IllegalStateException|IllegalArgumentException"
            + "|IndexOutOfBoundsException|ArithmeticException|UnsupportedOperationException"
            + "|NoSuchElementException|RuntimeException)\\((\"[^\"]*\")?\\);";
    private static final String[] NOT_ALLOWED = {
        "^package\\b", "^import\\b", "->", "::", "\\b(try|catch|finally|synchronized|assert)\\b", "Exact\\(",
        "\\bstatic \\{", "\\b(System\\.(?!arraycopy\\()\\w+)", "\\b(Thread|Random|Math\\.random|Object)\\b",
        "\\b(equals|hashCode|toString|getClass)\\(", "\\bwhile \\(true\\)", "for \\(;;\\)",
    };

    public static void main(String[] args) throws IOException {
        String text = Files.readString(Path.of(SOURCE)).replaceAll("(?s)/\\*.*?\\*/", "").replaceAll("//[^\n]*", "");
        String code = text.replaceAll("\"[^\"\n]*\"", "\"\"");
        Check.sentence("rules 1 to 13: words that are not allowed", () -> words(code));
        Check.sentence("rule 6: throw new E(\"a written text\")", () -> refusals(text));
        Check.sentence("rule 11: methods stay short", () -> lengths(code));
        List<Class<?>> classes = new ArrayList<>();
        collect(SurplusMatch.class, classes);
        Check.sentence("rule 11: at most some twelve classes", () -> Check.is("classes", classes.size() <= 12, true));
        Check.sentence("rules 1, 2: classes inside are static, not public", () -> inside(classes));
        Check.sentence("rule 11: parameters and fields", () -> members(classes));
        Check.sentence("rule 5: static fields are final constants", () -> constants(classes));
        Check.sentence("rule 12: only constructors and refusals make objects", () -> makings(code));
        Check.sentence("rule 12: what is kept is small", () -> room());
        Check.end();
    }

    private static void words(String code) {
        for (String word : NOT_ALLOWED) {
            Matcher found = Pattern.compile(word, Pattern.MULTILINE).matcher(code);
            Check.is("found " + word, found.find(), false);
        }
    }

    private static void refusals(String text) {
        int all = count("\\bthrow\\b", text);
        Check.is("throws of the allowed form", count(REFUSAL, text), all);
        Check.is("there are some", all > 10, true);
    }

    private static int count(String pattern, String text) {
        int found = 0;
        for (Matcher m = Pattern.compile(pattern).matcher(text); m.find();) {
            found++;
        }
        return found;
    }

    private static void lengths(String code) {
        int depthOfBody = -1;
        int start = 0;
        int depth = 0;
        String[] lines = code.split("\n");
        for (int k = 0; k < lines.length; k++) {
            boolean isHead = lines[k].matches("\\s+(public |private |static |final )*[\\w\\[\\]]+( \\w+)?\\(.*")
                    && !lines[k].trim().endsWith(";") && !lines[k].matches("\\s+(if|for|while|else|return|switch)\\b.*");
            if (isHead && depthOfBody < 0) {
                depthOfBody = depth;
                start = k;
            }
            depth += count("\\{", lines[k]) - count("\\}", lines[k]);
            if (depthOfBody >= 0 && lines[k].contains("}") && depth == depthOfBody) {
                Check.is("lines from " + lines[start].trim(), k - start + 1 <= 60, true);
                depthOfBody = -1;
            }
        }
    }

    /** A final field gets its object in the constructor, so no call makes what it keeps. */
    private static void makings(String code) {
        int made = 0;
        Matcher making = Pattern.compile("(?m)^(.*)\\bnew\\b").matcher(code);
        while (making.find()) {
            String ahead = making.group(1).trim();
            if (!ahead.equals("throw")) {
                String field = "private final [\\w\\[\\]]+ " + ahead.replace(" =", "") + ";";
                Check.is("a final field gets it: " + ahead, ahead.matches("\\w+ =") && count(field, code) > 0, true);
                made++;
            }
        }
        Check.is("there are some", made > 10, true);
    }

    /** The room of a run is for 7,300,000 fields and elements: 512 objects of 14,000 would find it. */
    private static void room() {
        SurplusMatch match = Scene.full();
        match.run();
        long kept = kept(match);
        Check.is("fields and elements: " + kept, kept > 100 && kept <= 14_000, true);
    }

    private static long kept(Object object) {
        if (object instanceof int[] numbers) {
            return numbers.length;
        }
        long sum = 0;
        try {
            for (Field field : object.getClass().getDeclaredFields()) {
                if (!Modifier.isStatic(field.getModifiers())) {
                    field.setAccessible(true);
                    sum += 1 + (field.getType().isPrimitive() ? 0 : kept(field.get(object)));
                }
            }
        } catch (IllegalAccessException e) {
            return -1;
        }
        return sum;
    }

    private static void collect(Class<?> type, List<Class<?>> into) {
        into.add(type);
        for (Class<?> inner : type.getDeclaredClasses()) {
            collect(inner, into);
        }
    }

    private static void inside(List<Class<?>> classes) {
        for (Class<?> type : classes) {
            if (type != SurplusMatch.class) {
                Check.is("static: " + type, Modifier.isStatic(type.getModifiers()), true);
                Check.is("not public: " + type, Modifier.isPublic(type.getModifiers()), false);
                Check.is("not protected: " + type, Modifier.isProtected(type.getModifiers()), false);
            }
        }
    }

    private static void members(List<Class<?>> classes) {
        for (Class<?> type : classes) {
            int fields = 0;
            for (Field field : type.getDeclaredFields()) {
                fields += Modifier.isStatic(field.getModifiers()) ? 0 : 1;
            }
            Check.is("fields of " + type, fields <= 20, true);
            for (Method method : type.getDeclaredMethods()) {
                Check.is("parameters of " + method, method.getParameterCount() <= 7, true);
            }
            for (Constructor<?> constructor : type.getDeclaredConstructors()) {
                Check.is("parameters of " + constructor, constructor.getParameterCount() <= 7, true);
            }
        }
    }

    private static void constants(List<Class<?>> classes) {
        List<Class<?>> kinds = List.of(int.class, long.class, boolean.class, char.class, String.class);
        for (Class<?> type : classes) {
            for (Field field : type.getDeclaredFields()) {
                if (Modifier.isStatic(field.getModifiers())) {
                    Check.is("final: " + field, Modifier.isFinal(field.getModifiers()), true);
                    Check.is("a constant: " + field, kinds.contains(field.getType()), true);
                }
            }
        }
    }
}
