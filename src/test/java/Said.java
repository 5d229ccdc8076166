import java.io.IOException;
import java.nio.file.Files;
import java.nio.file.Path;

/** Names the sentence of the document that the next answers are of, and sees that the document says it there. */
final class Said {
    private static final String DOC = readDocument();

    private Said() {
    }

    static void promise(int n, String sentence) {
        int from = DOC.indexOf("## Promise " + n + ":");
        name("Promise " + n, cut(from, "## ", from + 3), sentence);
    }

    static void term(int n, String sentence) {
        int terms = DOC.indexOf("## Terms");
        int from = DOC.indexOf(" " + n + ". ", terms);
        String behind = n < 6 ? " " + (n + 1) + ". " : "A call that throws";
        name("Term " + n, cut(from, behind, from + 1), sentence);
    }

    /** For what stands between the terms and the promises. */
    static void everyCall(String sentence) {
        int from = DOC.indexOf("A call that throws");
        name("Terms, of every call", cut(from, "## ", from), sentence);
    }

    private static String cut(int from, String behind, int after) {
        int to = from < 0 ? -1 : DOC.indexOf(behind, after);
        return from < 0 ? "" : DOC.substring(from, to < 0 ? DOC.length() : to);
    }

    private static void name(String where, String section, String sentence) {
        Bench.about(where + ", \"" + sentence + "\"");
        Bench.due("the sentence stands in the document", section.contains(sentence), true);
    }

    private static String readDocument() {
        try {
            return Files.readString(Path.of("../shared/DOC.md")).replaceAll("\\s+", " ");
        } catch (IOException e) {
            return "";
        }
    }
}
