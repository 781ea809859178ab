import java.nio.file.Files;
import java.nio.file.Path;
import java.util.List;
import java.util.regex.Matcher;
import java.util.regex.Pattern;

/** What of LANGUAGE.md can be read off the lines of ColdStore.java; run it from the project's folder. */
public final class LanguageTest {
    private static final String[] RULED_OUT = {
        "\\bimport\\b", "\\bpackage\\b", "->", "::", "\\bassert\\b", "\\bsynchronized\\b", "\\bfinally\\b",
        "\\btry\\b", "\\bcatch\\b", "\\bstatic\\s*\\{", "\\w+Exact\\b", "\\bSystem\\.(?!arraycopy)", "\\bThread\\b",
        "\\bjava\\.", "\"\\s*\\+", "\\+\\s*\"", "\\bObject\\b", "\\bequals\\b", "\\bhashCode\\b", "\\btoString\\b",
        "\\bwhile\\s*\\(\\s*true", "\\bfor\\s*\\(\\s*;", "\\bvar\\b",
    };
    private static final String[] THROWN = {
        "IllegalStateException", "IllegalArgumentException", "IndexOutOfBoundsException",
    };

    public static void main(String[] args) throws java.io.IOException {
        List<String> lines = Files.readAllLines(Path.of("src/main/java/ColdStore.java"));
        Check.due("the file has lines", lines.isEmpty() ? 0 : 1, 1);
        for (int i = 0; i < lines.size(); i++) {
            String line = lines.get(i).replaceAll("//.*", "").replaceAll("^\\s*/?\\*.*", "");
            oneLine(i + 1, line);
        }
        methodsStayShort(lines);
        Check.end("LanguageTest");
    }

    private static void oneLine(int number, String line) {
        for (String word : RULED_OUT) {
            Check.due("line " + number + " holds " + word, Pattern.compile(word).matcher(line).find() ? 1 : 0, 0);
        }
        Matcher thrown = Pattern.compile("\\bthrow\\b(.*)").matcher(line);
        if (thrown.find()) {
            Check.due("line " + number + " throws one of the document's",
                    thrown.group(1).matches(" new (" + String.join("|", THROWN) + ")\\(\"[^\"]*\"\\);") ? 1 : 0, 1);
        }
    }

    /** Every method closes with a brace as far in as its head. */
    private static void methodsStayShort(List<String> lines) {
        Pattern head = Pattern.compile("^((?:    ){1,2})(?!private static final class|static final class)\\S.*\\{$");
        for (int i = 0; i < lines.size(); i++) {
            Matcher found = head.matcher(lines.get(i));
            if (found.matches()) {
                int end = i;
                while (end < lines.size() && !lines.get(end).equals(found.group(1) + "}")) {
                    end++;
                }
                Check.due("line " + (i + 1) + " begins a method that is too long", end - i > 60 ? 1 : 0, 0);
            }
        }
    }
}
