import java.io.IOException;
import java.nio.file.Files;
import java.nio.file.Path;
import java.util.List;

/** The document's terms and promises, to see that every sentence of them has a test, and that none is made up. */
final class Document {
    private static final Path PLACE = Path.of("../shared/DOC.md");

    private Document() { }

    /** Each quoted sentence stands in the document; all of its terms and promises are quoted. */
    static void compare(List<String> quoted) {
        String text = text();
        boolean[] covered = new boolean[text.length()];
        for (String words : quoted) {
            int at = text.indexOf(words);
            Due.is("the document says \"" + words + "\"", at >= 0 ? 1 : 0, 1);
            while (at >= 0) {
                java.util.Arrays.fill(covered, at, at + words.length(), true);
                at = text.indexOf(words, at + 1);
            }
        }
        int begin = text.indexOf("THE ROAD has TENTHS");
        int end = text.indexOf("## Not promised");
        Due.is("the document has terms and promises", begin >= 0 && end > begin ? 1 : 0, 1);
        int from = -1;
        for (int i = Math.max(0, begin); i < end; i++) {
            boolean bare = !covered[i] && Character.isLetterOrDigit(text.charAt(i));
            if (bare && from < 0) {
                from = i;
            }
            if (from >= 0 && (covered[i] || i == end - 1)) {
                Due.is("no test quotes \"" + text.substring(from, i) + "\"", 1, 0);
                from = -1;
            }
        }
    }

    /** Without headings, what the face says, and lines that only tell where calls stand in it. */
    private static String text() {
        try {
            String all = Files.readString(PLACE);
            all = all.replaceAll("(?m)^## Promise.*$", "").replaceAll("(?m)^`[^`]*`: ", "").replaceAll("(?m)^```.*$", "");
            all = all.replaceAll("(?m)^Ahead of the calls .* the interface says: ----[^(\n]*", "").replaceAll("==== \\d ", "");
            return all.replaceAll("\\s+", " ");
        } catch (IOException e) {
            throw new IllegalStateException("no document at " + PLACE, e);
        }
    }
}
