import java.io.IOException;
import java.io.StringWriter;
import java.net.URL;
import java.net.URLClassLoader;
import java.nio.file.Files;
import java.nio.file.Path;
import java.util.ArrayList;
import java.util.List;
import java.util.Set;
import java.util.TreeSet;
import java.util.regex.Matcher;
import java.util.regex.Pattern;
import java.util.stream.Stream;
import javax.tools.JavaCompiler;
import javax.tools.StandardJavaFileManager;
import javax.tools.ToolProvider;

/**
 * README.md against the class: its Java is put together, in its order, to one program that is compiled
 * and run; its tables have to name every call, and what it throws in the document's words. Run it from
 * the project's folder.
 */
public final class ReadmeTest {
    private static final Pattern SHOWN = Pattern.compile("(.*;)\\s*// (answers|throws) ([^:\\s]+)(?:: .+)?");
    private static final Pattern DECLARED = Pattern.compile("\\w+ (\\w+) = (.*);");
    private static final Pattern CALLED = Pattern.compile("store\\.(\\w+)\\(");
    private static final Pattern FACE = Pattern.compile("    public ((?:int|long|double) (\\w+)\\(.*\\))(?: throws (.*))?;");
    private static final Pattern EXCEPTION = Pattern.compile("\\w+Exception");

    public static void main(String[] args) throws IOException, ReflectiveOperationException {
        List<String> readme = Files.readAllLines(Path.of("README.md"));
        List<String> document = Files.readAllLines(Path.of("../shared/DOC.md"));
        List<String> shown = javaOf(readme);
        Check.due("README.md shows Java", shown.isEmpty() ? 0 : 1, 1);
        whatIsShownHolds(shown);
        everyCallIsShown(shown, document);
        theTablesAreTheFace(readme, document);
        theTablesTellEveryThrow(readme, document);
        everyTestIsNamed(readme);
        Check.end("ReadmeTest");
    }

    private static List<String> javaOf(List<String> readme) {
        List<String> lines = new ArrayList<>();
        boolean isInside = false;
        for (String line : readme) {
            if (line.startsWith("```")) {
                isInside = line.equals("```java");
            } else if (isInside && !line.isBlank()) {
                lines.add(line);
            }
        }
        return lines;
    }

    private static void whatIsShownHolds(List<String> shown) throws IOException, ReflectiveOperationException {
        Path folder = Files.createTempDirectory("readme");
        try {
            Path source = folder.resolve("ReadmeUse.java");
            Files.writeString(source, program(shown));
            if (compiles(source, folder)) {
                for (String[] answer : answersOf(folder)) {
                    Check.dueText("README.md, " + answer[0], answer[1], answer[2]);
                }
            }
        } finally {
            remove(folder);
        }
    }

    private static String program(List<String> shown) {
        StringBuilder text = new StringBuilder();
        text.append("public final class ReadmeUse {\n");
        text.append("public static void run(java.util.List<String[]> answers) {\n");
        for (String line : shown) {
            Matcher found = SHOWN.matcher(line);
            boolean isChecked = found.matches();
            if (CALLED.matcher(line).find()) {
                Check.dueText("README.md, " + line + " says what is answered or thrown", isChecked ? "yes" : "no", "yes");
            }
            if (!isChecked) {
                text.append(line).append('\n');
            } else if (found.group(2).equals("answers")) {
                text.append(answering(found.group(1), found.group(3)));
            } else {
                text.append(throwing(found.group(1), found.group(3)));
            }
        }
        return text.append("}\n}\n").toString();
    }

    private static String answering(String statement, String due) {
        Matcher declared = DECLARED.matcher(statement);
        if (declared.matches()) {
            return statement + "\n" + noted(statement, "\"\" + " + declared.group(1), due);
        }
        return noted(statement, "\"\" + " + statement.substring(0, statement.length() - 1), due);
    }

    private static String throwing(String statement, String due) {
        return "{ String thrown = \"nothing\";\ntry { " + statement + " } catch (RuntimeException e) {"
                + " thrown = e.getClass().getSimpleName(); }\n" + noted(statement, "thrown", due) + "}\n";
    }

    private static String noted(String statement, String got, String due) {
        return "answers.add(new String[] {\"" + statement + "\", " + got + ", \"" + due + "\"});\n";
    }

    private static boolean compiles(Path source, Path folder) throws IOException {
        JavaCompiler compiler = ToolProvider.getSystemJavaCompiler();
        StringWriter said = new StringWriter();
        boolean isCompiled;
        try (StandardJavaFileManager files = compiler.getStandardFileManager(null, null, null)) {
            List<String> options = List.of("-d", folder.toString(), "-cp", System.getProperty("java.class.path"));
            isCompiled = compiler.getTask(said, files, null, options, null, files.getJavaFileObjects(source)).call();
        }
        Check.dueText("README.md's Java compiles", said.toString() + isCompiled, "true");
        return isCompiled;
    }

    private static List<String[]> answersOf(Path folder) throws IOException, ReflectiveOperationException {
        List<String[]> answers = new ArrayList<>();
        URL[] place = {folder.toUri().toURL()};
        try (URLClassLoader loader = new URLClassLoader(place, ReadmeTest.class.getClassLoader())) {
            loader.loadClass("ReadmeUse").getMethod("run", List.class).invoke(null, answers);
        } catch (java.lang.reflect.InvocationTargetException e) {
            Check.dueText("README.md, behind " + answers.size() + " answers", e.getCause().toString(), "nothing thrown");
        }
        return answers;
    }

    private static void remove(Path folder) throws IOException {
        try (Stream<Path> files = Files.list(folder)) {
            for (Path file : files.toList()) {
                Files.delete(file);
            }
        }
        Files.delete(folder);
    }

    private static void everyCallIsShown(List<String> shown, List<String> document) {
        Set<String> called = new TreeSet<>();
        for (String line : shown) {
            Matcher found = CALLED.matcher(line);
            while (found.find()) {
                called.add(found.group(1));
            }
        }
        Set<String> face = new TreeSet<>();
        for (Matcher method : faceOf(document)) {
            face.add(method.group(2));
        }
        Check.dueText("README.md's Java calls", called.toString(), face.toString());
    }

    private static List<Matcher> faceOf(List<String> document) {
        List<Matcher> face = new ArrayList<>();
        for (String line : document) {
            Matcher method = FACE.matcher(line);
            if (method.matches()) {
                face.add(method);
            }
        }
        Check.due("methods of the document's face", face.size(), 24);
        return face;
    }

    private static void theTablesAreTheFace(List<String> readme, List<String> document) {
        for (Matcher method : faceOf(document)) {
            List<String> thrown = new ArrayList<>();
            Matcher found = EXCEPTION.matcher(throwsCell(readme, method.group(1)));
            while (found.find()) {
                thrown.add(found.group());
            }
            String due = method.group(3) == null ? "" : method.group(3);
            Check.dueText("README.md's row of " + method.group(2), String.join(", ", thrown), due);
        }
    }

    /** The last cell of the row that tells of this call, or a text that no row is due to have. */
    private static String throwsCell(List<String> readme, String call) {
        for (String line : readme) {
            String[] cells = line.split(" *\\| *");
            if (cells.length == 4 && cells[1].equals("`" + call + "`")) {
                Check.due("length of what README.md says that " + call + " answers", cells[2].isBlank() ? 0 : 1, 1);
                return cells[3];
            }
        }
        return "NoRowException";
    }

    private static void theTablesTellEveryThrow(List<String> readme, List<String> document) {
        String call = "";
        int rows = 0;
        for (String line : document) {
            if (line.startsWith("`") && line.contains("`: ")) {
                call = line.substring(1, line.indexOf("`: ")).replaceAll(" throws .*", "");
            } else if (line.startsWith("Throws ")) {
                rows++;
                String due = line.substring("Throws ".length());
                Check.due("README.md's row of " + call + " tells: " + due,
                        throwsCell(readme, call).contains(due) ? 1 : 0, 1);
            }
        }
        Check.due("the document's 'Throws' rows were found", rows > 0 ? 1 : 0, 1);
    }

    private static void everyTestIsNamed(List<String> readme) throws IOException {
        String text = String.join("\n", readme);
        try (Stream<Path> files = Files.list(Path.of("src/test/java"))) {
            for (Path file : files.filter(Files::isRegularFile).toList()) {
                String name = file.getFileName().toString().replace(".java", "");
                Check.due("README.md names " + name, Pattern.compile("\\b" + name + "\\b").matcher(text).find() ? 1 : 0, 1);
            }
        }
    }
}
