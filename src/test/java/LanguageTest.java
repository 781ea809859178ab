import java.nio.file.Files;
import java.nio.file.Path;
import java.util.ArrayList;
import java.util.HashSet;
import java.util.List;
import java.util.Set;
import java.util.regex.Matcher;
import java.util.regex.Pattern;

/** What of LANGUAGE.md can be read off the lines of ColdStore.java; run it from the project's folder. */
public final class LanguageTest {
    private static final String[] RULED_OUT = {
        "\\bimport\\b", "\\bpackage\\b", "->", "::", "\\bassert\\b", "\\bsynchronized\\b", "\\bfinally\\b",
        "\\btry\\b", "\\bcatch\\b", "\\bstatic\\s*\\{", "\\w+Exact\\b", "\\bSystem\\.(?!arraycopy)", "\\bThread\\b",
        "\\bjava\\.", "\"\\s*\\+", "\\+\\s*\"", "\\bObject\\b", "\\bequals\\b", "\\bhashCode\\b", "\\btoString\\b",
        "\\bwhile\\s*\\(\\s*true", "\\bfor\\s*\\(\\s*;", "\\bvar\\b",
    };
    private static final String[] THROWN = {
        "IllegalStateException", "IllegalArgumentException", "IndexOutOfBoundsException",
    };

    // a name with a small letter behind a capital one is a class's; our constants have capitals alone
    private static final Pattern OF_A_CLASS = Pattern.compile("\\b([A-Z]\\w*[a-z]\\w*)\\.(\\w+)");
    private static final Pattern OWN_CLASS = Pattern.compile("\\bclass (\\w+)");
    private static final Pattern LISTED = Pattern.compile("(Math|Integer|Long)\\.(compare|max|min|abs|bitCount|floorDiv|floorMod)\\(");
    private static final Pattern USED_INDEX = Pattern.compile("(\\w+)\\[(.+?)\\]");
    private static final Pattern HEAD = Pattern.compile(
            "^((?:    ){1,2})(?!(?:if|for|while|switch|return|throw)\\b)(?:[\\w\\[\\]]+ )*(\\w+)\\([^;]*$");

    public static void main(String[] args) throws java.io.IOException {
        List<String> lines = Files.readAllLines(Path.of("src/main/java/ColdStore.java"));
        Check.due("the file has lines", lines.isEmpty() ? 0 : 1, 1);
        for (int i = 0; i < lines.size(); i++) {
            oneLine(i + 1, withoutRemark(lines.get(i)));
        }
        onlyTheListedLibraryIsUsed(lines);
        methodsStayShort(lines);
        indicesAreLookedAt(lines);
        Check.end("LanguageTest");
    }

    private static void oneLine(int number, String line) {
        for (String word : RULED_OUT) {
            Check.due("line " + number + " holds " + word, Pattern.compile(word).matcher(line).find() ? 1 : 0, 0);
        }
        Matcher thrown = Pattern.compile("\\bthrow\\b(.*)").matcher(line);
        if (thrown.find()) {
            Check.due("line " + number + " throws one of the document's",
                    thrown.group(1).matches(" new (" + String.join("|", THROWN) + ")\\(\"[^\"]*\"\\);") ? 1 : 0, 1);
        }
    }

    /** Rule 4. */
    private static void onlyTheListedLibraryIsUsed(List<String> lines) {
        Set<String> own = new HashSet<>();
        for (String line : lines) {
            Matcher found = OWN_CLASS.matcher(line);
            if (found.find()) {
                own.add(found.group(1));
            }
        }
        for (int i = 0; i < lines.size(); i++) {
            Matcher used = OF_A_CLASS.matcher(withoutRemark(lines.get(i)));
            while (used.find()) {
                boolean isListed = own.contains(used.group(1))
                        || LISTED.matcher(lines.get(i)).region(used.start(), lines.get(i).length()).lookingAt();
                Check.due("line " + (i + 1) + " uses " + used.group() + ", listed", isListed ? 1 : 0, 1);
            }
        }
    }

    /** Rule 11. */
    private static void methodsStayShort(List<String> lines) {
        for (int[] method : methodsOf(lines)) {
            Check.due("line " + (method[0] + 1) + " begins a method that is too long", method[1] - method[0] > 60 ? 1 : 0, 0);
        }
    }

    /** The first line and the last of every method: it closes with a brace as far in as its head. */
    private static List<int[]> methodsOf(List<String> lines) {
        List<int[]> methods = new ArrayList<>();
        int constructors = 0;
        for (int i = 0; i < lines.size(); i++) {
            Matcher found = HEAD.matcher(lines.get(i));
            if (found.matches()) {
                int end = i;
                while (end < lines.size() && !lines.get(end).equals(found.group(1) + "}")) {
                    end++;
                }
                methods.add(new int[] {i, Math.min(end, lines.size() - 1)});
                constructors += found.group(2).matches("[A-Z].*") ? 1 : 0;
            }
        }
        Check.due("methods found", methods.size() - constructors, methodsCompiled());
        return methods;
    }

    private static int methodsCompiled() {
        int methods = ColdStore.class.getDeclaredMethods().length;
        for (Class<?> own : ColdStore.class.getDeclaredClasses()) {
            methods += own.getDeclaredMethods().length;
        }
        return methods;
    }

    /** Rule 7: an index is a name, which the method compares with the array's length up to there. */
    private static void indicesAreLookedAt(List<String> lines) {
        for (int[] method : methodsOf(lines)) {
            StringBuilder before = new StringBuilder();
            for (int i = method[0]; i <= method[1]; i++) {
                String line = withoutRemark(lines.get(i)).replaceAll("\\bnew \\w+\\[", "new (");
                Matcher used = USED_INDEX.matcher(line);
                while (used.find()) {
                    String text = before + line.substring(0, used.start());
                    String look = "\\b" + Pattern.quote(used.group(2)) + " (<|>=) " + used.group(1) + "\\.length\\b";
                    boolean isLookedAt = used.group(2).matches("[a-z]\\w*") && Pattern.compile(look).matcher(text).find();
                    Check.due("line " + (i + 1) + " looks at the index of " + used.group() + " first", isLookedAt ? 1 : 0, 1);
                }
                before.append(line).append('\n');
            }
        }
    }

    private static String withoutRemark(String line) {
        return line.replaceAll("//.*", "").replaceAll("^\\s*/?\\*.*", "");
    }
}
