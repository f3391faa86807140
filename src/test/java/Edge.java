import java.io.IOException;
import java.nio.file.Files;
import java.nio.file.Path;

/** The words of the document that name a boundary case; a test says them ahead of what it looks at. */
final class Edge {
    private static final Path DOC = Path.of("../shared/DOC.md");
    private static String sectionName = "";
    private static String sectionText = "";

    private Edge() {
    }

    /** "I" to "IV" is a term, "1" to "37" a promise. */
    static void section(String name) {
        sectionName = name;
        sectionText = textOf(name);
        Check.due("the document has " + name, !sectionText.isEmpty(), true);
    }

    /** The words must stand in the section, so that no test looks at what the document does not say. */
    static void of(String words) {
        Check.about(sectionName + " \"" + words + "\": ");
        Check.due("stands in the document", sectionText.contains(words), true);
    }

    static String textOf(String name) {
        String start = Character.isDigit(name.charAt(0)) ? "\n## Promise " + name + ":" : "\n" + name + ". ";
        String doc = "\n" + document();
        int from = doc.indexOf(start);
        if (from < 0) {
            return "";
        }
        int to = doc.length();
        for (String end : new String[] {"\n## ", "\nII. ", "\nIII. ", "\nIV. ", "\nThe constants:"}) {
            int at = doc.indexOf(end, from + start.length());
            if (at >= 0) {
                to = Math.min(to, at);
            }
        }
        return doc.substring(from, to);
    }

    private static String document() {
        try {
            return Files.readString(DOC);
        } catch (IOException e) {
            throw new IllegalStateException("no document at " + DOC.toAbsolutePath(), e);
        }
    }
}
