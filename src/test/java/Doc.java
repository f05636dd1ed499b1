import java.nio.file.Files;
import java.nio.file.Path;
import java.util.ArrayList;
import java.util.List;

/** The document's Terms and promises, and what it says of an object's calls; and which of their words tests stand for. */
final class Doc {
    private static final int PROMISES = 36;

    private final String[] texts = new String[PROMISES + 1];
    private final boolean[][] covered = new boolean[PROMISES + 1][];

    /** Text 0 is the Terms, text p promise p. */
    Doc(Path path) throws Exception {
        String all = Files.readString(path);
        texts[0] = between(all, "\n## Terms\n", "\nAhead of the calls") + between(all, "\nAn object is used", "\n\n## ");
        for (int p = 1; p <= PROMISES; p++) {
            String behind = between(all, "\n## Promise " + p + ":", "\n## ");
            texts[p] = behind.substring(behind.indexOf("`: ") + 3);
        }
        for (int p = 0; p <= PROMISES; p++) {
            texts[p] = plain(texts[p]);
            covered[p] = new boolean[texts[p].length()];
        }
    }

    private static String between(String all, String from, String to) {
        int begin = all.indexOf(from);
        if (begin < 0) return "`: ";
        int end = all.indexOf(to, begin + from.length());
        return all.substring(begin, end < 0 ? all.length() : end);
    }

    private static String plain(String text) {
        return text.replace("```text", " ").replace("```", " ").replaceAll("\\s+", " ").trim();
    }

    /** Whether the words stand in the Terms or in one of the promises; where they do, they are covered. */
    boolean cover(String words, int... promises) {
        boolean found = coverIn(0, words);
        for (int p : promises) found |= p > 0 && p <= PROMISES && coverIn(p, words);
        return found;
    }

    private boolean coverIn(int text, String words) {
        boolean found = false;
        for (int at = texts[text].indexOf(words); at >= 0; at = texts[text].indexOf(words, at + 1)) {
            for (int i = at; i < at + words.length(); i++) covered[text][i] = true;
            found = true;
        }
        return found;
    }

    /** What no test stands for: pieces with a letter or a digit. */
    List<String> bare() {
        List<String> pieces = new ArrayList<>();
        for (int p = 0; p <= PROMISES; p++) {
            int begin = 0;
            for (int i = 0; i <= texts[p].length(); i++) {
                if (i < texts[p].length() && !covered[p][i]) continue;
                String piece = texts[p].substring(begin, i).trim();
                if (piece.matches(".*[A-Za-z0-9].*")) pieces.add((p == 0 ? "Terms: " : "Promise " + p + ": ") + piece);
                begin = i + 1;
            }
        }
        return pieces;
    }
}
