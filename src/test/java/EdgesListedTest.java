import java.io.IOException;
import java.nio.file.Files;
import java.nio.file.Path;
import java.util.ArrayList;
import java.util.Arrays;
import java.util.HashMap;
import java.util.List;
import java.util.Map;
import java.util.regex.Matcher;
import java.util.regex.Pattern;
import java.util.stream.Stream;

/** Whether every sentence of the terms and the promises has a test of its own among the Edges tests. */
public final class EdgesListedTest {
    private static final Pattern SAID = Pattern.compile("Edge\\.(section|of)\\(((?:\\s*\\+?\\s*\"(?:[^\"\\\\]|\\\\.)*\")+)\\)");
    private static final Pattern TEXT = Pattern.compile("\"((?:[^\"\\\\]|\\\\.)*)\"");
    /** These say what a thing is, and have no edge of their own. */
    private static final List<String> WITHOUT_EDGE = Arrays.asList(
        "A SOUND is a text",
        "(The NOTE that is bowed; of a BOAT how tight, how much rosin, its mile; the wind of the HOUR; how far it went by this NOTE.)",
        "SUM: PRODUCT { + or - PRODUCT }. PRODUCT: PART { * or / PART }. PART:",
        "( SUM ) ; min ( SUM , SUM ) ; max ( SUM , SUM ) ;",
        "a BOW of a NOTE: it goes as many miles as the SUM of carry tells,",
        "An HOUR: BOAT by BOAT,",
        "ACTS:",
        "HOURS; HOURS by the seed:",
        "STRUNG is how tight a BOAT should be tuned now,",
        "A QUESTION is a text, of all BOATS:",
        "TEST, SUM as in I, but",
        "Its FAULTS:",
        "score NAME N (a BOAT;",
        "How many there are:",
        "Of a BOAT:");

    public static void main(String[] args) throws IOException {
        Map<String, List<String>> said = said();
        List<String> sections = new ArrayList<>(Arrays.asList("I", "II", "III", "IV"));
        for (int promise = 1; promise <= 37; promise++) {
            sections.add("" + promise);
        }
        for (String section : sections) {
            String left = Edge.textOf(section);
            Check.due("the document has " + section, !left.isEmpty(), true);
            left = left.replaceAll("^\n## [^\n]*\n", "").replaceAll("^\n[IV]+\\. ", "").replaceAll("`[^`\n]*`:", "").replaceAll("```\\w*", "");
            List<String> words = new ArrayList<>(said.getOrDefault(section, List.of()));
            Check.due(section + " has a test", !words.isEmpty(), true);
            words.addAll(WITHOUT_EDGE);
            left = without(left, words).strip();
            Check.due(section + ": no test for \"" + left + "\"", left.matches("[^A-Za-z0-9]*"), true);
        }
        Check.finish();
    }

    private static String without(String text, List<String> words) {
        boolean[] gone = new boolean[text.length()];
        for (String w : words) {
            for (int at = text.indexOf(w); at >= 0; at = text.indexOf(w, at + 1)) {
                Arrays.fill(gone, at, at + w.length(), true);
            }
        }
        StringBuilder left = new StringBuilder();
        for (int i = 0; i < text.length(); i++) {
            left.append(gone[i] ? ' ' : text.charAt(i));
        }
        return left.toString().replaceAll("\\s+", " ");
    }

    /** The words that the Edges tests say, by section. */
    private static Map<String, List<String>> said() throws IOException {
        Map<String, List<String>> bySection = new HashMap<>();
        List<Path> files;
        try (Stream<Path> all = Files.list(Path.of("src/test/java"))) {
            files = all.filter(p -> p.getFileName().toString().matches("Edges(Term|Promises).*Test\\.java")).sorted().toList();
        }
        for (Path file : files) {
            String section = "";
            Matcher m = SAID.matcher(Files.readString(file));
            while (m.find()) {
                String words = joined(m.group(2));
                if (m.group(1).equals("section")) {
                    section = words;
                } else {
                    bySection.computeIfAbsent(section, k -> new ArrayList<>()).add(words);
                }
            }
        }
        return bySection;
    }

    private static String joined(String texts) {
        StringBuilder all = new StringBuilder();
        Matcher m = TEXT.matcher(texts);
        while (m.find()) {
            all.append(m.group(1));
        }
        return all.toString();
    }
}
