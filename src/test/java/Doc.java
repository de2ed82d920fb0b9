import java.io.IOException;
import java.nio.file.Files;
import java.nio.file.Path;
import java.util.ArrayList;
import java.util.List;
import java.util.regex.Matcher;
import java.util.regex.Pattern;

/**
 * The document's words, section by section (0: the terms, n: promise n). Each test of an edge says which
 * words it holds to, so that words that stand no more, and words that no test holds to, are seen.
 */
final class Doc {
    private static final Path PLACE = Path.of("../shared/DOC.md");
    private static final int PROMISES = 39;

    private final boolean isThere;
    private final String[] words = new String[PROMISES + 1];
    private final boolean[][] said = new boolean[PROMISES + 1][];

    Doc() {
        String whole = read();
        isThere = !whole.isEmpty();
        for (int section = 0; section <= PROMISES; section++) {
            words[section] = isThere ? cut(whole, section) : "";
            said[section] = new boolean[words[section].length()];
        }
    }

    private static String read() {
        try {
            return Files.isReadable(PLACE) ? Files.readString(PLACE) : "";
        } catch (IOException e) {
            return "";
        }
    }

    private static String cut(String whole, int section) {
        String heading = section == 0 ? "## Terms\n" : "## Promise " + section + ": [^\n]+\n";
        Matcher from = Pattern.compile(heading).matcher(whole);
        if (!from.find()) {
            return "";
        }
        int end = whole.indexOf("\n## ", from.end() - 1);
        String body = whole.substring(from.end(), end < 0 ? whole.length() : end);
        // What is no words: marks of the page, the numbers of its parts, and the face, which FaceTest looks at.
        return body.replace("```text", " ").replace("```", " ").replaceAll("==== \\d\\.", " ")
            .replaceFirst("The constants: `[^`]*`:", " ").replaceFirst(section == 0 ? "^$" : "^\\s*`[^`]*`:", " ")
            .replaceAll("\\s+", " ");
    }

    boolean isThere() {
        return isThere;
    }

    /** Whether these words stand in the section; they count as held to from now on. */
    boolean says(int section, String quoted) {
        boolean found = false;
        for (int at = words[section].indexOf(quoted); at >= 0; at = words[section].indexOf(quoted, at + 1)) {
            found = true;
            for (int i = 0; i < quoted.length(); i++) {
                said[section][at + i] = true;
            }
        }
        return found;
    }

    List<String> unsaid() {
        List<String> rest = new ArrayList<>();
        for (int section = 0; section <= PROMISES; section++) {
            StringBuilder piece = new StringBuilder();
            for (int i = 0; i <= words[section].length(); i++) {
                if (i < words[section].length() && !said[section][i]) {
                    piece.append(words[section].charAt(i));
                } else {
                    if (!piece.toString().isBlank()) {
                        rest.add(section + ": " + piece);
                    }
                    piece.setLength(0);
                }
            }
        }
        return rest;
    }
}
