import java.io.IOException;
import java.lang.reflect.InvocationTargetException;
import java.lang.reflect.Method;
import java.nio.charset.StandardCharsets;
import java.nio.file.Files;
import java.nio.file.Path;
import java.util.ArrayList;
import java.util.Arrays;
import java.util.Comparator;
import java.util.LinkedHashMap;
import java.util.List;
import java.util.Map;
import java.util.regex.Matcher;
import java.util.regex.Pattern;

/** The document's sentences, by the parts in which they stand, and the tests that name them. */
final class Sentences {
    private static final Path DOCUMENT = Path.of("../shared/DOC.md");

    private final Map<String, String> parts = new LinkedHashMap<>();
    private final List<Method> tests = new ArrayList<>();

    Sentences(Class<?>... groups) throws IOException {
        readParts(Files.readString(DOCUMENT, StandardCharsets.UTF_8));
        for (Class<?> group : groups) {
            List<Method> methods = new ArrayList<>(Arrays.asList(group.getDeclaredMethods()));
            methods.removeIf(method -> !method.isAnnotationPresent(Sentence.class));
            methods.sort(Comparator.comparing(Method::getName));
            tests.addAll(methods);
        }
    }

    private void readParts(String document) {
        Matcher section = Pattern.compile("(?ms)^## (Terms|Promise \\d+)[^\n]*\n(.*?)(?=^## |\\z)").matcher(document);
        while (section.find()) {
            String name = section.group(1);
            String text = section.group(2).replaceAll("```\\w*", "");
            if (!name.equals("Terms")) {
                parts.put(name, plain(text));
                continue;
            }
            String[] terms = text.split("(?m)^\\d\\. ");
            parts.put("Terms, ERRORS", plain(terms[0]));
            for (int i = 1; i < terms.length; i++) {
                parts.put("Terms " + i, plain(terms[i]));
            }
        }
    }

    private static String plain(String text) {
        return text.replaceAll("\\s+", " ").trim();
    }

    void run() {
        for (Method test : tests) {
            Sentence sentence = test.getAnnotation(Sentence.class);
            String part = parts.getOrDefault(sentence.of(), "");
            Due.holds(test.getName() + " names a sentence of " + sentence.of(), part.contains(sentence.says()));
            Due.begin(sentence.of() + ", \"" + sentence.says() + "\", " + test.getName());
            call(test);
            Due.end();
        }
        System.out.println(tests.size() + " tests");
    }

    private static void call(Method test) {
        try {
            test.invoke(null);
        } catch (InvocationTargetException thrown) {
            Due.holds("nothing is thrown, but " + thrown.getCause(), false);
        } catch (IllegalAccessException never) {
            Due.holds("it may be called", false);
        }
    }

    /** Each sentence is named by a test, or begins with one of these words: it names no boundary. */
    void allNamed(String... others) {
        for (String part : parts.keySet()) {
            for (String sentence : parts.get(part).split("(?<=[^.]\\.)\\s+")) {
                boolean named = Arrays.stream(others).anyMatch(sentence::startsWith);
                for (Method test : tests) {
                    Sentence by = test.getAnnotation(Sentence.class);
                    named |= by.of().equals(part) && sentence.contains(by.says());
                }
                Due.holds("a test names " + part + ", \"" + sentence + "\"", named);
            }
        }
    }
}
