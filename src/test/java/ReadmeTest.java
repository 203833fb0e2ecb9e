import java.io.IOException;
import java.lang.reflect.InvocationTargetException;
import java.lang.reflect.Method;
import java.nio.file.DirectoryStream;
import java.nio.file.Files;
import java.nio.file.Path;
import java.util.regex.Matcher;
import java.util.regex.Pattern;

/** The calls that README.md shows answer what it says, and it names every call and every test. */
public final class ReadmeTest {
    private static final Pattern CALL =
            Pattern.compile("link\\.(\\w+)\\(([^)]*)\\);\\s+// ([^: ]+): .+");
    private static final Pattern TEXT =
            Pattern.compile("\"([^\"]*)\"\\.chars\\(\\)\\.forEach\\(link::append\\);");
    private static final String NEW = "HeaderSqueezer link = new HeaderSqueezer();";

    private static HeaderSqueezer link = null;
    private static int calls = 0;
    private static int wrong = 0;

    private static void check(boolean fine, String what) {
        if (!fine) {
            wrong++;
            System.out.println(what);
        }
    }

    private static Method methodOf(String name) {
        for (Method method : HeaderSqueezer.class.getDeclaredMethods()) {
            if (method.getName().equals(name)) {
                return method;
            }
        }
        throw new IllegalArgumentException("no method " + name);
    }

    private static Object[] argumentsOf(String told) {
        String[] words = told.isBlank() ? new String[0] : told.split(",");
        Object[] arguments = new Object[words.length];
        for (int i = 0; i < words.length; i++) {
            String word = words[i].trim();
            boolean truth = word.equals("true") || word.equals("false");
            arguments[i] = truth ? (Object) Boolean.valueOf(word) : (Object) Integer.valueOf(word);
        }
        return arguments;
    }

    /** What the call answers, or the plain name of what it throws. */
    private static String answerOf(String name, String arguments) throws IllegalAccessException {
        try {
            return String.valueOf(methodOf(name).invoke(link, argumentsOf(arguments)));
        } catch (InvocationTargetException e) {
            return e.getCause().getClass().getSimpleName();
        }
    }

    private static void carryOutLine(String line) throws IllegalAccessException {
        Matcher call = CALL.matcher(line);
        Matcher text = TEXT.matcher(line);
        if (line.equals(NEW)) {
            link = new HeaderSqueezer();
        } else if (text.matches()) {
            text.group(1).chars().forEach(link::append);
        } else if (call.matches()) {
            calls++;
            String got = answerOf(call.group(1), call.group(2));
            check(got.equals(call.group(3)), line + " -- it answered " + got);
        } else {
            check(false, "no call with its answer: " + line);
        }
    }

    private static void checkExample(String readme) throws IllegalAccessException {
        int start = readme.indexOf("```java\n");
        int end = readme.indexOf("\n```\n", Math.max(start, 0));
        check(start >= 0 && end > start, "README.md shows no calls");
        if (start >= 0 && end > start) {
            for (String line : readme.substring(start + 8, end).split("\n")) {
                carryOutLine(line.trim());
            }
        }
        check(calls > 0, "README.md shows no answers");
    }

    private static void checkNames(String readme) throws IOException {
        for (Method method : HeaderSqueezer.class.getMethods()) {
            boolean own = method.getDeclaringClass() == HeaderSqueezer.class;
            check(!own || readme.contains("`" + method.getName() + "("), "README.md leaves out " + method);
        }
        try (DirectoryStream<Path> tests = Files.newDirectoryStream(Path.of("src/test/java"), "*.java")) {
            for (Path test : tests) {
                String name = test.getFileName().toString().replace(".java", "");
                check(readme.contains("`" + name + "`"), "README.md leaves out " + name);
            }
        }
    }

    public static void main(String[] args) throws IOException, IllegalAccessException {
        String readme = Files.readString(Path.of("README.md"));
        checkExample(readme);
        checkNames(readme);
        System.out.println(calls + " calls of README.md, " + wrong + " wrong");
        if (wrong != 0) {
            System.exit(1);
        }
    }
}
