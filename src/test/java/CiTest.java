import java.io.File;
import java.io.IOException;
import java.nio.file.Files;
import java.nio.file.Path;
import java.util.List;

/** What README.md says of .ci/run is so: it is tried on small projects, each with two tests of its own. */
public final class CiTest {
    private static final Path SCRIPT = Path.of(".ci/run");
    private static final String PASSES = "System.exit(0);";
    private static final String FAILS = "System.exit(1);";
    private static final String THROWS = "throw new IllegalStateException();";
    private static final String IS_NO_CODE = "no code";
    private static final String IS_NOT_THERE = "";

    public static void main(String[] args) throws IOException, InterruptedException {
        // Beside the compiled classes, where .ci/run clears all away at its end.
        Path folder = Files.createTempDirectory(Path.of(System.getProperty("java.class.path")), "projects");
        eachTestIsRun(folder);
        itFailsIfATestFails(folder);
        itFailsIfOneDoesNotCompile(folder);
        itFailsIfAFolderHasNone(folder);
        Check.end();
    }

    private static void eachTestIsRun(Path folder) throws IOException, InterruptedException {
        Check.sentence("README.md", "runs each of them");
        Path project = project(folder.resolve("good"), PASSES, PASSES);
        Path own = folder.resolve("own-ran");
        Path shared = folder.resolve("shared-ran");
        Path more = folder.resolve("more-ran");
        writeTest(project.resolve("src/test/java"), "OwnTest", leaves(own));
        writeTest(project.resolve("src/test/java"), "MoreTest", leaves(more));
        writeTest(project.resolve("../shared/tests"), "SharedRuns", leaves(shared));
        Check.due("all tests pass: .ci/run", exitOf(project), 0);
        for (Path left : List.of(own, more, shared)) {
            Check.due("it was run: " + left.getFileName(), Files.exists(left), true);
        }
    }

    private static void itFailsIfATestFails(Path folder) throws IOException, InterruptedException {
        Check.sentence("README.md", "fails if one does not compile or fails");
        Check.due("the project's fails", passes(folder.resolve("a"), FAILS, PASSES), false);
        Check.due("the shared one fails", passes(folder.resolve("b"), PASSES, FAILS), false);
        Check.due("the project's throws", passes(folder.resolve("c"), THROWS, PASSES), false);
    }

    private static void itFailsIfOneDoesNotCompile(Path folder) throws IOException, InterruptedException {
        Check.sentence("README.md", "fails if one does not compile or fails");
        Check.due("the project's is no code", passes(folder.resolve("d"), IS_NO_CODE, PASSES), false);
        Check.due("the shared one is no code", passes(folder.resolve("e"), PASSES, IS_NO_CODE), false);
        Path project = project(folder.resolve("f"), PASSES, PASSES);
        Files.writeString(project.resolve("src/main/java/BalanceRounds.java"), IS_NO_CODE);
        Check.due("the class is no code: .ci/run fails", exitOf(project) != 0, true);
    }

    private static void itFailsIfAFolderHasNone(Path folder) throws IOException, InterruptedException {
        Check.sentence("README.md", "or if one of the two folders has none");
        Check.due("no test of the project", passes(folder.resolve("g"), IS_NOT_THERE, PASSES), false);
        Check.due("no shared test", passes(folder.resolve("h"), PASSES, IS_NOT_THERE), false);
    }

    /** Code that leaves a file, and needs the class to be compiled. */
    private static String leaves(Path file) {
        return "new BalanceRounds(); new java.io.File(\"" + file + "\").createNewFile();";
    }

    private static boolean passes(Path place, String own, String shared) throws IOException, InterruptedException {
        return exitOf(project(place, own, shared)) == 0;
    }

    /** A project with this script, a class of that name, and a test of each kind that does so. */
    private static Path project(Path place, String own, String shared) throws IOException {
        Path project = place.resolve("main");
        Files.createDirectories(project.resolve(".ci"));
        Files.copy(SCRIPT, project.resolve(".ci/run"));
        Path main = Files.createDirectories(project.resolve("src/main/java"));
        Files.writeString(main.resolve("BalanceRounds.java"), "public final class BalanceRounds { }");
        writeTest(Files.createDirectories(project.resolve("src/test/java")), "OwnTest", own);
        writeTest(Files.createDirectories(place.resolve("shared/tests")), "SharedRuns", shared);
        return project;
    }

    private static void writeTest(Path folder, String name, String body) throws IOException {
        if (!body.equals(IS_NOT_THERE)) {
            Files.writeString(folder.resolve(name + ".java"), "public final class " + name
                    + " { public static void main(String[] args) throws Exception { " + body + " } }");
        }
    }

    /** The script is called from another folder than its project's: README.md says that it may be. */
    private static int exitOf(Path project) throws IOException, InterruptedException {
        return new ProcessBuilder("sh", project.resolve(".ci/run").toString())
                .directory(new File(System.getProperty("java.class.path")))
                .redirectErrorStream(true)
                .redirectOutput(ProcessBuilder.Redirect.DISCARD)
                .start().waitFor();
    }
}
