import java.io.IOException;
import java.io.UncheckedIOException;
import java.nio.file.Files;
import java.nio.file.Path;

/** The document, so that a test which names a sentence names one that is there. */
final class Document {
    /** Stands in a quotation for words that are left out. */
    private static final String GAP = " [..] ";
    private static final String TEXT = read();
    private static final boolean THERE = !TEXT.isEmpty();

    private Document() {
    }

    /** Whether the words stand, in their order, in a promise ("Promise 3"), a part ("PART 2") or a heading. */
    static boolean says(String where, String words) {
        if (!THERE) {
            return true;
        }
        String place = place(where);
        int from = 0;
        for (String piece : words.split(java.util.regex.Pattern.quote(GAP))) {
            int at = place.indexOf(piece, from);
            if (at < 0) {
                return false;
            }
            from = at + piece.length();
        }
        return true;
    }

    private static String place(String where) {
        if (where.startsWith("PART ")) {
            int next = Integer.parseInt(where.substring(5)) + 1;
            return between(where + ". ", next > 5 ? "The constants:" : "PART " + next + ". ");
        }
        return between("## " + where + (where.startsWith("Promise ") ? ": " : " "), " ## ");
    }

    private static String between(String start, String end) {
        int from = TEXT.indexOf(start);
        if (from < 0) {
            return "";
        }
        int to = TEXT.indexOf(end, from + start.length());
        return to < 0 ? TEXT.substring(from) : TEXT.substring(from, to);
    }

    /** Without the document beside the project the sentences are tested all the same, only not looked up. */
    private static String read() {
        Path file = Path.of(System.getProperty("project.root", "."), "../shared/DOC.md");
        if (!Files.isReadable(file)) {
            System.out.println("no document at " + file + ": quotations are not looked up");
            return "";
        }
        try {
            return Files.readString(file).replaceAll("\\s+", " ");
        } catch (IOException e) {
            throw new UncheckedIOException(e);
        }
    }
}
