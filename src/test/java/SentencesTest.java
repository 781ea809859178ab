import java.io.IOException;
import java.nio.file.Files;
import java.nio.file.Path;
import java.util.ArrayList;
import java.util.LinkedHashMap;
import java.util.List;
import java.util.Map;
import java.util.regex.Matcher;
import java.util.regex.Pattern;
import java.util.stream.Stream;

/**
 * The tests quote the document's sentences: each quotation stands in the document under its head,
 * and each 'Throws' row is quoted. Run it from the project's folder.
 */
public final class SentencesTest {
    private static final Pattern QUOTED = Pattern.compile(
            "Check\\.sentence\\(\\s*\"([^\"]+)\",\\s*(\"[^\"]*\"(?:\\s*\\+\\s*\"[^\"]*\")*)\\)");
    private static final Pattern THROWS = Pattern.compile("Throws `\\w+` (.+)");

    /** The boundary cases that 'Returns' rows and 'Terms' name: a quotation has to hold each. */
    private static final String[][] NAMED = {
        {"Promise 10", "Returns 0 if a pallet with this product can be put there"},
        {"Promise 13", "-1 if it is gone"},
        {"Promise 14", "(0 if it suits it)"},
        {"Promise 14", "-1 if there is none"},
        {"Promise 21", "0 if it is spoiled; 500 if it is not spoiled after 500 hours"},
        {"Promise 24", "0 if there are none."},
        {"Promise 25", "which wraps around as a 64-bit integer"},
        {"Terms", "Time is counted in hours, from 0 to 2000"},
        {"Terms", "The hour of the day is the time modulo 24."},
        {"Terms", "What is said to be divided is cut towards 0."},
        {"Terms", "for h from 8 to 20"},
        {"Terms", "There are at most 12"},
        {"Terms", "There are at most 6,"},
        {"Terms", "There are at most 60"},
        {"Terms", "A room has places for 1 to 20 pallets"},
        {"Terms", "but not more than 90"},
        {"Terms", "it is spoiled, if this is less than 0."},
        {"Terms", "it is on if T is greater than the aim and 5"},
        {"Terms", "off if T is less than the aim less 5"},
        {"Terms", "off if T is less than the aim less 25"},
        {"Terms", "the lowest one of all 24"},
        {"Terms", "one whose defrosting ends in this hour is off by then"},
        {"Terms", "If several exceptions apply, the one that is named first is thrown."},
    };

    private record Quotation(String head, String text) {
    }

    public static void main(String[] args) throws IOException {
        Map<String, List<String>> document = document(Path.of("../shared/DOC.md"));
        List<Quotation> quoted = quotations(Path.of("src/test/java"));
        Check.due("there are quotations", quoted.isEmpty() ? 0 : 1, 1);
        Check.due("heads of the document", document.size() > 25 ? 1 : 0, 1);
        for (Quotation quotation : quoted) {
            String lines = String.join(" ", document.getOrDefault(quotation.head, List.of()));
            Check.due(quotation + " stands in the document", lines.contains(quotation.text) ? 1 : 0, 1);
        }
        everyThrowsRowIsQuoted(document, quoted);
        everyNamedCaseIsQuoted(quoted);
        Check.end("SentencesTest");
    }

    private static void everyThrowsRowIsQuoted(Map<String, List<String>> document, List<Quotation> quoted) {
        int rows = 0;
        for (Map.Entry<String, List<String>> part : document.entrySet()) {
            for (String line : part.getValue()) {
                Matcher found = THROWS.matcher(line);
                if (found.matches()) {
                    rows++;
                    boolean isQuoted = quoted.contains(new Quotation(part.getKey(), found.group(1)));
                    Check.due(part.getKey() + ", " + line + " is quoted", isQuoted ? 1 : 0, 1);
                }
            }
        }
        Check.due("'Throws' rows were found", rows > 0 ? 1 : 0, 1);
    }

    private static void everyNamedCaseIsQuoted(List<Quotation> quoted) {
        for (String[] named : NAMED) {
            boolean isQuoted = quoted.stream()
                    .anyMatch(q -> q.head.equals(named[0]) && q.text.contains(named[1]));
            Check.due(named[0] + ", " + named[1] + " is quoted", isQuoted ? 1 : 0, 1);
        }
    }

    /** The document's lines by their heads; of 'Promise 2: setOutside' the head is 'Promise 2'. */
    private static Map<String, List<String>> document(Path file) throws IOException {
        Map<String, List<String>> parts = new LinkedHashMap<>();
        List<String> part = new ArrayList<>();
        for (String line : Files.readAllLines(file)) {
            if (line.startsWith("## ")) {
                part = new ArrayList<>();
                parts.put(line.substring(3).split(":")[0], part);
            } else if (!line.isBlank()) {
                part.add(line.trim());
            }
        }
        return parts;
    }

    private static List<Quotation> quotations(Path folder) throws IOException {
        List<Quotation> quoted = new ArrayList<>();
        try (Stream<Path> files = Files.list(folder)) {
            for (Path file : files.filter(f -> f.toString().endsWith(".java")).sorted().toList()) {
                Matcher found = QUOTED.matcher(Files.readString(file));
                while (found.find()) {
                    quoted.add(new Quotation(found.group(1), joined(found.group(2))));
                }
            }
        }
        return quoted;
    }

    private static String joined(String literals) {
        String inside = literals.replaceAll("\"\\s*\\+\\s*\"", "");
        return inside.substring(1, inside.length() - 1);
    }
}
