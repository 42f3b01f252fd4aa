import java.io.IOException;
import java.lang.reflect.Method;
import java.lang.reflect.Modifier;
import java.nio.file.DirectoryStream;
import java.nio.file.Files;
import java.nio.file.Path;
import java.util.ArrayList;
import java.util.List;
import java.util.Set;
import java.util.TreeSet;
import java.util.regex.Matcher;
import java.util.regex.Pattern;
import jdk.jshell.EvalException;
import jdk.jshell.JShell;
import jdk.jshell.Snippet;
import jdk.jshell.SnippetEvent;

/** What README.md says of how to use the class is so, and it names every test. */
public final class ReadmeTest {
    /** A line of code, and behind it the answer, up to a colon or the end of the line. */
    private static final Pattern SHOWN = Pattern.compile("(.*\\S)\\s+// ([^:]+)(:.*)?");
    private static final Pattern CALL = Pattern.compile("\\b[xy]\\.(\\w+)\\(");
    private static final Pattern TEST_OF_THE_LIST = Pattern.compile("- `(\\w+)`: .*");
    private static final Path PROGRAM = Path.of("src/main/java/BalanceRounds.java");
    private static final String THROWS = "throws ";

    public static void main(String[] args) throws IOException {
        List<String> readme = Files.readAllLines(Path.of("README.md"));
        eachShownAnswerIsGiven(readme);
        eachCallIsShown(readme);
        theListHasEveryTest(readme);
        Check.end();
    }

    private static void eachShownAnswerIsGiven(List<String> readme) throws IOException {
        Check.sentence("README.md", "Behind each call stands what it answers");
        // The local engine runs in this very machine: no second one, no socket.
        try (JShell shell = JShell.builder().executionEngine("local").build()) {
            // The shell's code has a package, and could not name a compiled class that has none.
            Check.due("the program is understood", runs(shell, Files.readString(PROGRAM)), true);
            for (String line : javaLines(readme)) {
                Matcher shown = SHOWN.matcher(line);
                if (shown.matches()) {
                    Check.due(shown.group(1), answerOf(shell, shown.group(1)), meantBy(shell, shown.group(2)));
                } else {
                    Check.due("runs: " + line, runs(shell, line), true);
                    Check.due("is a call without its answer: " + line, line.matches("\\s*[xy]\\..*"), false);
                }
            }
        }
    }

    private static List<String> javaLines(List<String> readme) {
        List<String> lines = new ArrayList<>();
        boolean inside = false;
        for (String line : readme) {
            if (line.startsWith("```")) {
                inside = line.equals("```java");
            } else if (inside) {
                lines.add(line);
            }
        }
        return lines;
    }

    private static boolean runs(JShell shell, String code) {
        List<SnippetEvent> events = shell.eval(code);
        return events.size() == 1 && events.get(0).status() == Snippet.Status.VALID
                && events.get(0).exception() == null;
    }

    /** The value of a line of code, or what it throws. */
    private static String answerOf(JShell shell, String code) {
        SnippetEvent event = shell.eval(code).get(0);
        if (event.exception() instanceof EvalException thrown) {
            return THROWS + thrown.getExceptionClassName().replace("java.lang.", "");
        }
        return event.status() == Snippet.Status.VALID ? event.value() : "nothing, as it is no code: " + code;
    }

    private static String meantBy(JShell shell, String shown) {
        return shown.startsWith(THROWS) ? shown : answerOf(shell, shown);
    }

    private static void eachCallIsShown(List<String> readme) {
        Check.sentence("README.md", "How to use it");
        Set<String> shown = new TreeSet<>();
        for (String line : javaLines(readme)) {
            Matcher call = CALL.matcher(line);
            if (SHOWN.matcher(line).matches() && call.find()) {
                shown.add(call.group(1));
            }
        }
        Set<String> due = new TreeSet<>();
        for (Method method : BalanceRounds.class.getDeclaredMethods()) {
            if (Modifier.isPublic(method.getModifiers())) {
                due.add(method.getName());
            }
        }
        Check.due("the calls that are shown", shown.toString(), due.toString());
    }

    private static void theListHasEveryTest(List<String> readme) throws IOException {
        Check.sentence("README.md", "How to run its tests");
        Set<String> listed = new TreeSet<>();
        for (String line : readme) {
            Matcher test = TEST_OF_THE_LIST.matcher(line);
            if (test.matches()) {
                listed.add(test.group(1));
            }
        }
        Set<String> due = new TreeSet<>();
        try (DirectoryStream<Path> tests = Files.newDirectoryStream(Path.of("src/test/java"), "*Test.java")) {
            for (Path test : tests) {
                due.add(test.getFileName().toString().replace(".java", ""));
            }
        }
        Check.due("the tests that are listed", listed.toString(), due.toString());
    }
}
