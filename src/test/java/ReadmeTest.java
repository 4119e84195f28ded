import java.io.IOException;
import java.lang.reflect.InvocationTargetException;
import java.lang.reflect.Method;
import java.nio.file.Files;
import java.nio.file.Path;
import java.util.Set;
import java.util.TreeSet;
import java.util.regex.Matcher;
import java.util.regex.Pattern;

/**
 * README.md: makes the calls that it shows and compares the answers with those that it tells, and looks whether each
 * promise has the tests that it names. The calls are read from README.md itself, so that none can be told wrongly there.
 */
public final class ReadmeTest {
    private static final Path README = Path.of("README.md");
    private static final Path TESTS = Path.of("src", "test", "java");
    private static final int PROMISES = 48;
    private static final String NEW = "WaitingBureau bureau = new WaitingBureau();";
    // A call, and behind it the answer, with a colon and what it means.
    private static final Pattern CALL = Pattern.compile("bureau\\.(\\w+)\\((.*)\\); *// ([^:]+): .+");
    private static final Pattern ROW = Pattern.compile("\\| (\\d+) `(\\w+)` \\| (.+) \\|");

    private WaitingBureau bureau;
    private int calls;
    private final Set<Integer> promises = new TreeSet<>();
    private final Set<String> shown = new TreeSet<>();

    private ReadmeTest() {
    }

    public static void main(String[] args) throws IOException, ReflectiveOperationException {
        if (!Files.exists(README)) {
            System.out.println("there is no README.md here: run the test in the project's directory");
            System.exit(1);
        }
        ReadmeTest test = new ReadmeTest();
        test.examples();
        test.namedTests();
        test.allTestsAreNamed();
        Check.end("ReadmeTest");
    }

    // ---- the calls

    private void examples() throws IOException, ReflectiveOperationException {
        boolean isJava = false;
        int blocks = 0;
        for (String line : Files.readAllLines(README)) {
            if (line.equals("```java")) {
                isJava = true;
                bureau = null;
                blocks++;
            } else if (line.equals("```")) {
                isJava = false;
            } else if (isJava) {
                example(line);
            }
        }
        Check.same("whether README.md shows a new object and a text", true, blocks >= 2 && calls >= 20);
        for (String call : new String[] {"append", "load", "join", "pass", "claim", "witness", "offer", "undo"}) {
            Check.same("whether README.md shows " + call + "()", true, shown.contains(call));
        }
    }

    private void example(String line) throws ReflectiveOperationException {
        if (line.equals(NEW)) {
            bureau = new WaitingBureau();
            return;
        }
        Matcher call = CALL.matcher(line);
        boolean isCall = bureau != null && call.matches();
        Check.same("whether README.md has a call of an object with its answer in: " + line, true, isCall);
        if (isCall) {
            Check.same("README.md: " + line, call.group(3), answer(call.group(1), call.group(2)));
            shown.add(call.group(1));
            calls++;
        }
    }

    /** What a call answers or throws, as README.md tells it. */
    private String answer(String name, String list) throws ReflectiveOperationException {
        String[] written = list.isEmpty() ? new String[0] : list.split(", ");
        for (Method method : WaitingBureau.class.getMethods()) {
            if (method.getDeclaringClass() == WaitingBureau.class && method.getName().equals(name)
                    && method.getParameterCount() == written.length) {
                return answer(method, written);
            }
        }
        return "there is no such call";
    }

    private String answer(Method method, String[] written) throws IllegalAccessException {
        Object[] arguments = new Object[written.length];
        for (int i = 0; i < written.length; i++) {
            boolean isNumber = method.getParameterTypes()[i] == int.class;
            arguments[i] = isNumber ? (Object) Integer.decode(written[i]) : Boolean.valueOf(written[i]);
        }
        try {
            Object answer = method.invoke(bureau, arguments);
            return method.getReturnType() == void.class ? "nothing" : String.valueOf(answer);
        } catch (InvocationTargetException e) {
            return "throws " + e.getCause().getClass().getSimpleName();
        }
    }

    // ---- where the test of each promise lies

    private void namedTests() throws IOException {
        for (String line : Files.readAllLines(README)) {
            Matcher row = ROW.matcher(line);
            if (row.matches()) {
                int promise = Integer.parseInt(row.group(1));
                Check.same("whether README.md tells promise " + promise + " once", true, promises.add(promise));
                Check.same("the call of promise " + promise + " in README.md", callOf(promise), row.group(2));
                for (String name : row.group(3).split(", ")) {
                    Check.same("whether " + name + " tests promise " + promise, true, tests(name, promise));
                }
            }
        }
        for (int promise = 1; promise <= PROMISES; promise++) {
            Check.same("whether README.md tells promise " + promise, true, promises.contains(promise));
        }
        Check.same("the promises that README.md tells", PROMISES, promises.size());
    }

    /** The call that the document's promise is about; its headings tell it, but for the first one. */
    private static String callOf(int promise) throws IOException {
        String heading = "## Promise " + promise + ": ";
        for (String line : Files.readAllLines(Path.of("..", "shared", "DOC.md"))) {
            if (line.startsWith(heading)) {
                return promise == 1 ? "WaitingBureau" : line.substring(heading.length());
            }
        }
        return "no call";
    }

    private static boolean tests(String name, int promise) throws IOException {
        Path file = TESTS.resolve(name + ".java");
        if (!Files.exists(file)) {
            return false;
        }
        String source = Files.readString(file);
        return source.contains("Check.promise(" + promise + ");") || source.contains("refused(" + promise + ", ");
    }

    private void allTestsAreNamed() throws IOException {
        String readme = Files.readString(README);
        try (var files = Files.newDirectoryStream(TESTS, "*Test.java")) {
            for (Path file : files) {
                String name = file.getFileName().toString().replace(".java", "");
                Check.same("whether README.md names " + name, true, readme.contains("`" + name + "`"));
            }
        }
        Check.same("whether README.md tells how to run the tests", true, readme.contains("\n    .ci/run\n"));
    }
}
