import java.io.IOException;
import java.lang.reflect.InvocationTargetException;
import java.lang.reflect.Method;
import java.lang.reflect.Modifier;
import java.nio.file.Files;
import java.nio.file.Path;
import java.util.ArrayList;
import java.util.List;
import java.util.NoSuchElementException;
import java.util.regex.Matcher;
import java.util.regex.Pattern;

/** What README.md says is so: its calls answer what stands behind them, and what it names is there. */
public final class ReadmeTest {
    private static final Path PAGE = Path.of("README.md");
    private static final Path TESTS = Path.of("src/test/java");
    private static final String BEGIN = "RiverText river = new RiverText();";
    private static final Pattern CALL = Pattern.compile("river\\.(\\w+)\\(([^)]*)\\); // ([^:]+)(?::.*)?");
    private static final Pattern NAMED = Pattern.compile("`([A-Za-z]+)`");
    private static final int FEWEST_CALLS = 30;

    private static RiverText river = new RiverText();
    private static int calls = 0;

    private ReadmeTest() { }

    public static void main(String[] args) throws IOException, ReflectiveOperationException {
        List<String> lines = Files.readAllLines(PAGE);
        boolean inExample = false;
        for (String line : lines) {
            if (line.startsWith("```")) {
                inExample = line.equals("```java");
            } else if (inExample && !line.isEmpty()) {
                example(line);
            }
        }
        Due.yes("enough calls on the page", calls >= FEWEST_CALLS);
        String page = String.join("\n", lines);
        allCallsAreNamed(page);
        whatIsNamedIsThere(page);
        Due.finish();
    }

    private static void example(String line) throws ReflectiveOperationException {
        if (line.equals(BEGIN)) {
            river = new RiverText();
            return;
        }
        Matcher call = CALL.matcher(line);
        boolean told = call.matches();
        Due.yes("told as a call with its answer: " + line, told);
        if (told) {
            calls++;
            String got = answer(call.group(1), call.group(2));
            Due.yes(line + " (answered " + got + ")", got.equals(call.group(3)));
        }
    }

    private static String answer(String name, String given) throws ReflectiveOperationException {
        String[] parts = given.isEmpty() ? new String[0] : given.split(", ");
        Class<?>[] kinds = new Class<?>[parts.length];
        Object[] args = new Object[parts.length];
        for (int i = 0; i < parts.length; i++) {
            kinds[i] = int.class;
            args[i] = (int) (long) Long.decode(parts[i]);
        }
        try {
            return RiverText.class.getMethod(name, kinds).invoke(river, args).toString();
        } catch (InvocationTargetException e) {
            boolean noSuch = e.getCause() instanceof NoSuchElementException;
            return noSuch ? "NoSuchElementException" : e.getCause().toString();
        }
    }

    private static List<String> faceNames() {
        List<String> names = new ArrayList<>();
        for (Method m : RiverText.class.getDeclaredMethods()) {
            if (Modifier.isPublic(m.getModifiers())) {
                names.add(m.getName());
            }
        }
        return names;
    }

    private static void allCallsAreNamed(String page) {
        for (String name : faceNames()) {
            Due.yes("the page names " + name, page.contains("`" + name + "`"));
        }
        for (Class<?> inside : RiverText.class.getDeclaredClasses()) {
            Due.yes("the page names " + inside, page.contains("`" + inside.getSimpleName() + "`"));
        }
    }

    /** A name in small letters is a call's (or a tool's, or an answer's), one with a great letter a class's. */
    private static void whatIsNamedIsThere(String page) {
        List<String> there = new ArrayList<>(faceNames());
        there.addAll(List.of("javac", "java", "false", "RiverText", "NoSuchElementException"));
        for (Class<?> inside : RiverText.class.getDeclaredClasses()) {
            there.add(inside.getSimpleName());
        }
        Matcher named = NAMED.matcher(page);
        while (named.find()) {
            String name = named.group(1);
            boolean isThere = there.contains(name) || Files.exists(TESTS.resolve(name + ".java"));
            Due.yes("what the page names is there: " + name, isThere);
        }
    }
}
