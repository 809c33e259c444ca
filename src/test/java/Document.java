import java.io.IOException;
import java.io.UncheckedIOException;
import java.nio.file.Files;
import java.nio.file.Path;

/** ../shared/DOC.md, with every row of blanks and line ends as one blank; run at the project's root. */
final class Document {
    private static final String TEXT = read();

    private Document() {
    }

    private static String read() {
        Path path = Path.of("../shared/DOC.md");
        if (!Files.exists(path)) {
            System.out.println("no " + path + " here: quotes are not looked up");
            return "";
        }
        try {
            return oneLine(Files.readString(path));
        } catch (IOException e) {
            throw new UncheckedIOException(e);
        }
    }

    static boolean isHere() {
        return !TEXT.isEmpty();
    }

    static String oneLine(String text) {
        return text.replaceAll("\\s+", " ").trim();
    }

    static boolean has(String quoted) {
        return !isHere() || TEXT.contains(quoted);
    }

    /** What stands between two marks, the first time that it does. */
    static String between(String from, String to) {
        int start = TEXT.indexOf(from);
        int end = start < 0 ? -1 : TEXT.indexOf(to, start + from.length());
        if (end < 0) {
            throw new IllegalStateException("the document has no " + from + " with " + to + " behind it");
        }
        return TEXT.substring(start + from.length(), end).trim();
    }
}
