import java.io.IOException;
import java.nio.file.Files;
import java.nio.file.Path;
import java.util.Comparator;
import java.util.List;
import java.util.stream.Stream;

/**
 * .ci/run itself, in small projects laid out like this one: it runs every test of the project and
 * every one beside it in shared/tests, and fails if one fails or does not compile. Run it from the
 * project's folder.
 */
public final class CiRunTest {
    private static final String GOOD = "System.out.println(new ColdStore().now() == 0 ? \"seen \" : \"\");";
    private static final String BAD = "System.exit(new ColdStore().now() + 1);";
    private static final String THROWING = "throw new IllegalStateException();";
    private static final String NOT_COMPILING = "new ColdStore().nothing();";

    private static Path folder;

    public static void main(String[] args) throws IOException, InterruptedException {
        testsOfAnyNameAreRun();
        isRefused("a test of the project that fails", "main/src/test/java/First.java", "First", BAD);
        isRefused("a test of the project in a folder that fails", "main/src/test/java/deep/First.java", "First", BAD);
        isRefused("a test of the project that throws", "main/src/test/java/First.java", "First", THROWING);
        isRefused("a test of the project that does not compile", "main/src/test/java/First.java", "First", NOT_COMPILING);
        isRefused("a shared test that fails", "shared/tests/First.java", "First", BAD);
        isRefused("a shared test of another name that fails", "shared/tests/a b/1-first.java", "First", BAD);
        isRefused("a shared test that does not compile", "shared/tests/First.java", "First", NOT_COMPILING);
        isRefused("a shared test without a main", "shared/tests/First.java", "First", null);
        isRefused("a class that does not compile", "main/src/main/java/ColdStore.java", "ColdStore", NOT_COMPILING);
        noTestsAreRefused("main/src/test/java/MainTest.java");
        noTestsAreRefused("shared/tests/SharedRuns.java");
        Check.end("CiRunTest");
    }

    private static void testsOfAnyNameAreRun() throws IOException, InterruptedException {
        layOut();
        write("main/src/test/java/deep/Second.java", source("public", "Second", GOOD));
        write("shared/tests/a b/3-third.java", source("", "Third", GOOD));
        String said = run();
        Check.due("runs of tests in " + said, said.split("seen ", -1).length - 1, 4);
        Check.dueText("the end of " + said, said.endsWith("4 passed, 0 failed\n0") ? "as due" : "another", "as due");
        remove();
    }

    private static void isRefused(String name, String file, String type, String body)
            throws IOException, InterruptedException {
        layOut();
        write(file, source(file.contains(type) ? "public" : "", type, body));
        String said = run();
        String seen = file.startsWith("main/") ? file.substring("main/".length()) : "../" + file;
        boolean isNamed = said.contains("FAILED: " + seen);
        Check.dueText(".ci/run with " + name + ", which says " + said,
                said.endsWith("\n1") && isNamed ? "fails" : "passes", "fails");
        remove();
    }

    private static void noTestsAreRefused(String only) throws IOException, InterruptedException {
        layOut();
        Files.delete(folder.resolve(only));
        String said = run();
        Check.dueText(".ci/run without " + only + ", which says " + said, said.endsWith("\n1") ? "fails" : "passes", "fails");
        remove();
    }

    /** A project that passes: one test of its own, and a shared one. */
    private static void layOut() throws IOException {
        folder = Files.createTempDirectory("ci");
        for (String file : List.of(".ci/run", ".ci/CiLaunch.java", "src/main/java/ColdStore.java")) {
            write("main/" + file, Files.readString(Path.of(file)));
        }
        write("main/src/test/java/support/Helper.java", "final class Helper { }");
        write("main/src/test/java/MainTest.java", source("public", "MainTest", "new Helper();" + GOOD));
        write("shared/tests/SharedRuns.java", source("public", "SharedRuns", GOOD));
    }

    private static String source(String modifier, String type, String body) {
        String main = body == null ? "" : "public static void main(String[] args) { " + body + " }";
        return modifier + " final class " + type + " { " + main + " }";
    }

    private static void write(String file, String text) throws IOException {
        Path place = folder.resolve(file);
        Files.createDirectories(place.getParent());
        Files.writeString(place, text);
    }

    /** What it says, and behind it, on a line of its own, its exit code. */
    private static String run() throws IOException, InterruptedException {
        Path said = folder.resolve("said");
        Process process = new ProcessBuilder("bash", "main/.ci/run").directory(folder.toFile())
                .redirectErrorStream(true).redirectOutput(said.toFile()).start();
        int code = process.waitFor();
        return Files.readString(said) + code;
    }

    private static void remove() throws IOException {
        try (Stream<Path> files = Files.walk(folder)) {
            for (Path file : files.sorted(Comparator.reverseOrder()).toList()) {
                Files.delete(file);
            }
        }
    }
}
