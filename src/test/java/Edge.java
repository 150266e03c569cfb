import java.io.IOException;
import java.nio.file.Files;
import java.nio.file.Path;

/**
 * The words of the document, each with the test of its edges: who tests an edge quotes the words it is about.
 * A quote that doesn't stand in the document is wrong, and so are words that nobody quoted.
 */
final class Edge {
    private static final Path DOCUMENT = Path.of("..", "shared", "DOC.md");
    private static final int PROMISES = 37;

    private static String document = "";
    private static boolean[] quoted = new boolean[0];

    private Edge() {
    }

    /** Without the document there is nothing to hold the quotes against; the edges are tested all the same. */
    static void begin() throws IOException {
        if (Files.exists(DOCUMENT)) {
            document = plainWords(Files.readString(DOCUMENT));
            quoted = new boolean[document.length()];
        }
    }

    /** Headings become marks that no quote has; what the headings, the face and the interface's parts say is left out. */
    private static String plainWords(String text) {
        return text.replaceAll("(?s)^.*?trees in words.*?an image\\. ======== 1 ", "")
                .replaceAll("(?s)## The public face.*?(?=## Terms)", "")
                .replaceAll("(?s)## Not promised.*", "")
                .replaceAll("Ahead of the calls [^\n]*", "")
                .replaceAll("## Promise (\\d+):[^\n]*\n\n`[^`]*`: ", "#$1# ")
                .replaceAll("## [^\n]*", "")
                .replaceAll("```(text)?", "")
                .replaceAll("======== [23] |Said once more: ", "")
                .replaceAll("\\s+", " ");
    }

    /** All checks until the next edge are about these words. */
    static void of(int promise, String words) {
        Check.about(promise + ", \"" + words + "\": ");
        if (document.isEmpty()) {
            return;
        }
        int own = document.indexOf("#" + promise + "#");
        int end = document.indexOf("#" + (promise + 1) + "#");
        int place = document.indexOf(words, own);
        if (place < 0 || (end >= 0 && place + words.length() > end)) {
            place = document.indexOf(words);
        }
        Check.due("stands in the document", place >= 0 ? 1 : 0, 1);
        for (int i = place; place >= 0 && i < place + words.length(); i++) {
            quoted[i] = true;
        }
    }

    static void due(String what, long got, long want) {
        Check.due(what, got, want);
    }

    /** Words that nobody quoted are edges that nobody tested. */
    static void end() {
        Check.about("");
        StringBuilder missing = new StringBuilder();
        for (int i = 0; i < document.length(); i++) {
            missing.append(quoted[i] ? '|' : document.charAt(i));
        }
        for (int promise = 1; promise <= PROMISES; promise++) {
            int mark = missing.indexOf("#" + promise + "#");
            if (mark >= 0) {
                missing.replace(mark, mark + ("#" + promise + "#").length(), "|");
            }
        }
        for (String rest : missing.toString().split("\\|+")) {
            Check.sameText("what nobody quoted", rest.replaceAll("[^A-Za-z0-9]+", " ").trim(), "");
        }
        Check.end("edges");
    }
}
