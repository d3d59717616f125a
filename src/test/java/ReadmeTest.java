import java.io.IOException;
import java.lang.reflect.InvocationTargetException;
import java.lang.reflect.Method;
import java.nio.file.Files;
import java.nio.file.Path;
import java.util.HashMap;
import java.util.Map;
import java.util.Set;
import java.util.TreeSet;
import java.util.regex.Matcher;
import java.util.regex.Pattern;

/** The run of calls in README.md: each is made as it stands there, and its answer is the one shown behind it. */
final class ReadmeTest {
    private static final Path README = Path.of("README.md");
    private static final String BEGIN = "```java";
    private static final String END = "```";
    private static final String FIRST = "BudgetBook book = new BudgetBook();";
    /** A call, its answer, and what is said of the answer behind a colon. */
    private static final Pattern ROW =
            Pattern.compile("(?:int (\\w+) = )?book\\.(\\w+)\\(([^)]*)\\); +// ([^:]+)(?:: .*)?");

    private final BudgetBook book = new BudgetBook();
    private final Map<String, Object> variables = new HashMap<>();
    private final Set<String> called = new TreeSet<>();

    private ReadmeTest() {
    }

    static void run() {
        new ReadmeTest().play();
    }

    private void play() {
        boolean isInRun = false;
        boolean isBegun = false;
        for (String line : linesOf(README)) {
            if (line.equals(BEGIN) || line.equals(END)) {
                isInRun = line.equals(BEGIN);
            } else if (isInRun && !isBegun) {
                Check.due("README.md begins with a new book", line.startsWith(FIRST), true);
                isBegun = true;
            } else if (isInRun && !line.isEmpty() && !line.startsWith("//")) {
                row(line);
            }
        }
        Check.due("README.md shows each call of the face", called, callsOfTheFace());
    }

    private void row(String line) {
        Matcher row = ROW.matcher(line);
        if (!row.matches()) {
            Check.due("README.md: " + line, "no call with its answer", "a call with its answer");
            return;
        }
        Object answer = answerOf(row.group(2), row.group(3));
        Check.due("README.md: " + line, answer.toString(), row.group(4).replace("throws ", "throws."));
        called.add(row.group(2));
        if (row.group(1) != null) {
            variables.put(row.group(1), answer);
        }
    }

    private Object answerOf(String name, String list) {
        String[] texts = list.isEmpty() ? new String[0] : list.split(", ");
        Object[] arguments = new Object[texts.length];
        try {
            for (int i = 0; i < texts.length; i++) {
                arguments[i] = valueOf(texts[i]);
            }
            return methodOf(name).invoke(book, arguments);
        } catch (InvocationTargetException thrown) {
            return "throws." + thrown.getCause().getClass().getSimpleName();
        } catch (ReflectiveOperationException | IllegalArgumentException wrong) {
            return "not a call of a BudgetBook: " + wrong;
        }
    }

    private Object valueOf(String text) throws ReflectiveOperationException {
        if (text.equals("true") || text.equals("false")) {
            return text.equals("true");
        }
        if (text.startsWith("BudgetBook.")) {
            return BudgetBook.class.getField(text.substring("BudgetBook.".length())).get(null);
        }
        return variables.containsKey(text) ? variables.get(text) : Integer.valueOf(text);
    }

    private static Method methodOf(String name) throws NoSuchMethodException {
        for (Method method : BudgetBook.class.getMethods()) {
            if (method.getName().equals(name)) {
                return method;
            }
        }
        throw new NoSuchMethodException(name);
    }

    private static Set<String> callsOfTheFace() {
        Set<String> names = new TreeSet<>();
        for (Method method : BudgetBook.class.getMethods()) {
            if (method.getDeclaringClass() == BudgetBook.class) {
                names.add(method.getName());
            }
        }
        return names;
    }

    private static Iterable<String> linesOf(Path path) {
        try {
            return Files.readAllLines(path);
        } catch (IOException none) {
            throw new IllegalStateException("README.md is read from the folder that .ci/run goes to", none);
        }
    }
}
