import java.io.IOException;
import java.lang.reflect.Constructor;
import java.lang.reflect.Field;
import java.lang.reflect.Method;
import java.lang.reflect.Modifier;
import java.nio.charset.StandardCharsets;
import java.nio.file.Files;
import java.nio.file.Path;
import java.util.Arrays;
import java.util.List;
import java.util.Set;
import java.util.TreeSet;
import java.util.regex.Matcher;
import java.util.regex.Pattern;

/** That the class shows the document's face and keeps to what LANGUAGE.md leaves of Java. */
final class LanguageTest {
    private static final Path SOURCE = Path.of("src/main/java/LiftCredit.java");
    private static final Path DOCUMENT = Path.of("../shared/DOC.md");
    private static final List<String> FORBIDDEN = List.of(
        "\\bthrow\\b", "\\bthrows\\b", "\\btry\\b", "\\bcatch\\b", "\\bfinally\\b", "\\bsynchronized\\b",
        "\\bassert\\b", "\\bpackage\\b", "->", "::", "@", "\\w+Exact\\b", "\\bequals\\(", "\\bhashCode\\b",
        "\\btoString\\b", "\\bMath\\.random\\b", "\\bSystem\\.(?!arraycopy\\b)", "\\bThread\\b", "\\bObject\\b",
        "\\bstatic\\s*\\{", "\\bimport (?!java\\.util\\.(Arrays|ArrayList|List);)");

    private LanguageTest() {
    }

    public static void main(String[] arguments) throws IOException {
        face();
        members();
        words();
        methodsAreShort();
        Due.verdict();
    }

    private static void face() throws IOException {
        String document = Files.readString(DOCUMENT, StandardCharsets.UTF_8);
        Set<String> due = new TreeSet<>();
        Matcher line = Pattern.compile("(?m)^    public (int \\w+\\(.*\\));$").matcher(document);
        while (line.find()) {
            due.add(line.group(1).replaceAll("(int|long) \\w+([,)])", "$1$2"));
        }
        Set<String> got = new TreeSet<>();
        for (Method method : LiftCredit.class.getDeclaredMethods()) {
            if (Modifier.isPublic(method.getModifiers())) {
                StringBuilder shown = new StringBuilder();
                shown.append(method.getReturnType()).append(' ').append(method.getName()).append('(');
                for (Class<?> type : method.getParameterTypes()) {
                    shown.append(shown.charAt(shown.length() - 1) == '(' ? "" : ", ").append(type);
                }
                got.add(shown.append(')').toString());
            }
        }
        Due.is("public methods", got.size(), 40);
        Due.holds("the face is " + due + ", not " + got, got.equals(due));
        Constructor<?>[] constructors = LiftCredit.class.getDeclaredConstructors();
        Due.is("constructors", constructors.length, 1);
        Due.is("its parameters", constructors[0].getParameterCount(), 0);
        Due.holds("it is public", Modifier.isPublic(constructors[0].getModifiers()));
        int modifiers = LiftCredit.class.getModifiers();
        Due.holds("public and final", Modifier.isPublic(modifiers) && Modifier.isFinal(modifiers));
    }

    private static void members() {
        Set<String> publicNames = new TreeSet<>();
        for (Method method : LiftCredit.class.getDeclaredMethods()) {
            if (Modifier.isPublic(method.getModifiers())) {
                publicNames.add(method.getName());
            }
        }
        for (Method method : LiftCredit.class.getDeclaredMethods()) {
            int modifiers = method.getModifiers();
            boolean isPublic = Modifier.isPublic(modifiers);
            Due.holds(method + " is public or private", isPublic || Modifier.isPrivate(modifiers));
            Due.holds(method + " bears no public name", isPublic || !publicNames.contains(method.getName()));
        }
        for (Field field : LiftCredit.class.getDeclaredFields()) {
            Due.holds(field + " is private", Modifier.isPrivate(field.getModifiers()));
        }
        Class<?>[] inside = LiftCredit.class.getDeclaredClasses();
        Due.holds("some twelve classes", inside.length <= 11);
        keeps(LiftCredit.class);
        for (Class<?> one : inside) {
            Due.holds(one + " is static", Modifier.isStatic(one.getModifiers()));
            Due.holds(one + " isn't public", !Modifier.isPublic(one.getModifiers()));
            keeps(one);
        }
    }

    private static void keeps(Class<?> one) {
        int fields = 0;
        for (Field field : one.getDeclaredFields()) {
            boolean isStatic = Modifier.isStatic(field.getModifiers());
            Due.holds(field + " is no state of the class", !isStatic || Modifier.isFinal(field.getModifiers()));
            fields += isStatic ? 0 : 1;
        }
        Due.holds(one + " has some twenty fields", fields <= 20);
        for (Method method : one.getDeclaredMethods()) {
            Due.holds(method + " takes seven at most", method.getParameterCount() <= 7);
        }
    }

    private static void words() throws IOException {
        String source = Files.readString(SOURCE, StandardCharsets.UTF_8);
        String code = source.replaceAll("(?s)/\\*.*?\\*/", "").replaceAll("//[^\n]*", "");
        for (String forbidden : FORBIDDEN) {
            Due.holds("the program is without " + forbidden, !Pattern.compile(forbidden).matcher(code).find());
        }
        for (byte sign : source.getBytes(StandardCharsets.UTF_8)) {
            if (sign < 1) {
                Due.holds("signs are 1 to 127", false);
                break;
            }
        }
        long longest = Arrays.stream(source.split("\n")).mapToInt(String::length).max().orElse(0);
        Due.holds("lines of 120 signs at most", longest <= 120);
    }

    /** A method begins where a line opens a bracket in a class's body; sixty lines are its most. */
    private static void methodsAreShort() throws IOException {
        int start = -1;
        int outside = 0;
        int depth = 0;
        int methods = 0;
        List<String> lines = Files.readAllLines(SOURCE, StandardCharsets.UTF_8);
        for (int i = 0; i < lines.size(); i++) {
            String line = lines.get(i).replaceAll("//.*|'.'|\"[^\"]*\"", "");
            if (start < 0 && line.endsWith("{") && line.contains("(")) {
                start = i;
                outside = depth;
                methods++;
            }
            depth += line.replaceAll("[^{]", "").length() - line.replaceAll("[^}]", "").length();
            if (start >= 0 && depth == outside) {
                Due.holds("the method of line " + (start + 1) + " has sixty lines at most", i - start < 60);
                start = -1;
            }
        }
        Due.holds("methods are found", methods > 100);
    }
}
