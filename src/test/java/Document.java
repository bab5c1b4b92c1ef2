import java.io.IOException;
import java.nio.file.Files;
import java.nio.file.Path;
import java.util.ArrayList;
import java.util.LinkedHashMap;
import java.util.List;
import java.util.Map;

/** The document's own words by section, and which of them the tests have quoted: so that no sentence goes untested. */
final class Document {
    static final String TERMS = "Terms";

    private final Map<String, String> words = new LinkedHashMap<>();
    private final Map<String, boolean[]> quoted = new LinkedHashMap<>();

    Document() {
        Map<String, StringBuilder> sections = new LinkedHashMap<>();
        StringBuilder section = null;
        for (String line : lines()) {
            if (line.startsWith("## ")) {
                String title = sectionOf(line.substring(3));
                section = title == null ? null : sections.computeIfAbsent(title, t -> new StringBuilder());
            } else if (section != null && isTold(line)) {
                section.append(withoutSignature(line)).append(' ');
            }
        }
        sections.forEach((title, text) -> {
            words.put(title, text.toString().replaceAll("==== \\d\\.", " ").replaceAll("\\s+", " "));
            quoted.put(title, new boolean[words.get(title).length()]);
        });
    }

    private static List<String> lines() {
        try {
            return Files.readAllLines(Path.of("../shared/DOC.md"));
        } catch (IOException e) {
            throw new IllegalStateException("the document is not where the tests look for it", e);
        }
    }

    private static String sectionOf(String title) {
        if (title.startsWith("Promise ")) {
            return title.substring("Promise ".length(), title.indexOf(':'));
        }
        return title.equals(TERMS) ? TERMS : null;
    }

    /** The marks of a block of text and the order of the interface tell nothing that can be broken. */
    private static boolean isTold(String line) {
        return !line.startsWith("```") && !line.startsWith("Ahead of the calls ");
    }

    private static String withoutSignature(String line) {
        int end = line.indexOf("`: ");
        return line.startsWith("`") && end >= 0 ? line.substring(end + 3) : line;
    }

    int sections() {
        return words.size();
    }

    /** Whether a section has these words; they count as quoted then, wherever they stand in it. */
    boolean quote(String section, String quote) {
        String text = words.getOrDefault(section, "");
        int found = text.indexOf(quote);
        boolean stands = found >= 0;
        while (found >= 0) {
            for (int k = 0; k < quote.length(); k++) {
                quoted.get(section)[found + k] = true;
            }
            found = text.indexOf(quote, found + 1);
        }
        return stands;
    }

    /** What no test has quoted, piece by piece. */
    List<String> unquoted() {
        List<String> pieces = new ArrayList<>();
        words.forEach((title, text) -> {
            boolean[] marks = quoted.get(title);
            StringBuilder piece = new StringBuilder();
            for (int k = 0; k <= text.length(); k++) {
                if (k < text.length() && !marks[k]) {
                    piece.append(text.charAt(k));
                } else {
                    if (piece.toString().matches(".*\\w.*")) {
                        pieces.add(title + ": " + piece);
                    }
                    piece.setLength(0);
                }
            }
        });
        return pieces;
    }
}
