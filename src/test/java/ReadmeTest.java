import java.io.IOException;
import java.lang.reflect.InvocationTargetException;
import java.lang.reflect.Method;
import java.nio.file.Files;
import java.nio.file.Path;
import java.util.Arrays;
import java.util.List;
import java.util.Set;
import java.util.TreeSet;
import java.util.regex.Matcher;
import java.util.regex.Pattern;
import java.util.stream.Stream;

/** Every call that README.md shows is made, and its answer and the TEXTS behind it are as shown. */
public final class ReadmeTest {
    private static final Path README = Path.of("README.md");
    private static final Path TESTS = Path.of("src/test/java");
    private static final String NEW_OBJECT = "LetterWeave weave = new LetterWeave();";
    private static final Pattern SHOWN_CALL = Pattern.compile("weave\\.(\\w+)\\(([^)]*)\\); +// ([^;]+)(?:; (.*))?");
    private static final Pattern SHOWN_TEXT = Pattern.compile("copy ([0-3]) is \"([^\"]*)\"");

    private final Set<String> shownMethods = new TreeSet<>();
    private final Set<String> shownExceptions = new TreeSet<>();
    private LetterWeave weave = null;

    public static void main(String[] args) throws IOException, ReflectiveOperationException {
        Check.sentence("README.md says how to use the class, with calls and answers that are so when tried");
        List<String> readme = Files.readAllLines(README);
        ReadmeTest test = new ReadmeTest();
        test.tryCalls(readme);
        test.allOfTheFaceIsShown();
        Check.sentence("README.md says how to run its tests");
        eachTestHasItsRow(readme);
        Check.end();
    }

    private void tryCalls(List<String> readme) throws ReflectiveOperationException {
        boolean inJava = false;
        for (String line : readme) {
            if (line.startsWith("```")) {
                inJava = line.equals("```java");
            } else if (inJava && line.equals(NEW_OBJECT)) {
                weave = new LetterWeave();
            } else if (inJava) {
                tryCall(line);
            }
        }
    }

    private void tryCall(String line) throws ReflectiveOperationException {
        Matcher shown = SHOWN_CALL.matcher(line);
        // A line that can't be tried must not pass for one that is so.
        if (!shown.matches()) {
            Check.fault("no call with its answer: " + line);
            return;
        }
        shownMethods.add(shown.group(1));
        Check.due(line, answer(shown.group(1), numbers(shown.group(2))), shown.group(3));
        if (shown.group(4) != null) {
            for (String text : shown.group(4).split(", ")) {
                tryText(line, text);
            }
        }
    }

    private void tryText(String line, String text) {
        Matcher shown = SHOWN_TEXT.matcher(text);
        if (!shown.matches()) {
            Check.fault("no TEXT of a COPY: " + text + " in " + line);
            return;
        }
        int c = Integer.parseInt(shown.group(1));
        StringBuilder got = new StringBuilder();
        for (int at = 0; at < weave.length(c); at++) {
            got.append((char) weave.letter(c, at));
        }
        Check.due("TEXT of COPY " + c + " behind " + line, got.toString(), shown.group(2));
    }

    private String answer(String name, Object[] numbers) throws ReflectiveOperationException {
        Class<?>[] types = new Class<?>[numbers.length];
        Arrays.fill(types, int.class);
        Method method = LetterWeave.class.getMethod(name, types);
        try {
            Object answer = method.invoke(weave, numbers);
            return answer == null ? "nothing" : answer.toString();
        } catch (InvocationTargetException e) {
            String exception = e.getCause().getClass().getSimpleName();
            shownExceptions.add(exception);
            return "throws " + exception;
        }
    }

    /** Numbers as they are written in Java: 97 or 'a'. */
    private static Object[] numbers(String written) {
        String[] parts = written.split(", ");
        Object[] numbers = new Object[parts.length];
        for (int i = 0; i < parts.length; i++) {
            numbers[i] = parts[i].startsWith("'") ? parts[i].charAt(1) : Integer.parseInt(parts[i]);
        }
        return numbers;
    }

    private void allOfTheFaceIsShown() {
        Check.due("the methods shown", shownMethods.toString(),
                "[bring, has, insert, length, letter, merge, name, remove]");
        Check.due("the exceptions shown", shownExceptions.toString(),
                "[IllegalArgumentException, IllegalStateException]");
    }

    private static void eachTestHasItsRow(List<String> readme) throws IOException {
        Set<String> named = new TreeSet<>();
        Matcher row = Pattern.compile("`(\\w+Test)`").matcher(String.join("\n", readme));
        while (row.find()) {
            named.add(row.group(1));
        }
        Set<String> tests = new TreeSet<>();
        try (Stream<Path> files = Files.list(TESTS)) {
            files.map(file -> file.getFileName().toString())
                    .filter(name -> name.endsWith("Test.java"))
                    .forEach(name -> tests.add(name.replace(".java", "")));
        }
        Check.due("the tests named", named.toString(), tests.toString());
    }
}
