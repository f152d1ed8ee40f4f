import java.io.IOException;
import java.lang.reflect.Method;
import java.lang.reflect.Modifier;
import java.nio.charset.StandardCharsets;
import java.nio.file.Files;
import java.nio.file.Path;
import java.util.Arrays;
import java.util.regex.Matcher;
import java.util.regex.Pattern;

/** That README.md is right: its calls answer what stands behind them, and it names every call and test. */
final class ReadmeTest {
    private static final Path README = Path.of("README.md");
    private static final Pattern EXAMPLE = Pattern.compile("(?s)```java\n(.*?)```");
    private static final Pattern CALL = Pattern.compile("lift\\.(\\w+)\\((.*)\\); +// (-?\\d+)(:.*)?");

    private ReadmeTest() {
    }

    public static void main(String[] arguments) throws IOException {
        String readme = Files.readString(README, StandardCharsets.UTF_8);
        Matcher example = EXAMPLE.matcher(readme);
        int examples = 0;
        while (example.find()) {
            answersAsTold(example.group(1));
            examples++;
        }
        Due.is("examples", examples, 3);
        namesAll(readme);
        Due.verdict();
    }

    private static void answersAsTold(String example) {
        LiftCredit lift = null;
        for (String line : example.split("\n")) {
            Matcher call = CALL.matcher(line);
            if (line.equals("LiftCredit lift = new LiftCredit();")) {
                lift = new LiftCredit();
            } else if (lift != null && call.matches()) {
                long[] told = told(call.group(1), call.group(2));
                Due.is(line, Calls.on(lift, told), Long.parseLong(call.group(3)));
            } else {
                Due.holds("a line is a call with its answer: " + line, false);
            }
        }
    }

    private static long[] told(String name, String arguments) {
        String[] parts = arguments.isEmpty() ? new String[0] : arguments.split(", ");
        long[] told = new long[parts.length + 1];
        told[0] = Arrays.asList(Calls.NAMES).indexOf(name);
        for (int i = 0; i < parts.length; i++) {
            told[i + 1] = Long.decode(parts[i].replace("L", ""));
        }
        return told;
    }

    private static void namesAll(String readme) throws IOException {
        for (Method method : LiftCredit.class.getDeclaredMethods()) {
            boolean told = readme.contains("`" + method.getName() + "(");
            Due.holds(method.getName() + " is told", told || !Modifier.isPublic(method.getModifiers()));
        }
        try (var files = Files.list(Path.of("tests"))) {
            for (Path test : (Iterable<Path>) files::iterator) {
                String name = test.toString();
                Due.holds(name + " is told", readme.contains("`" + name + "`") || !name.endsWith("Test.java"));
            }
        }
    }
}
