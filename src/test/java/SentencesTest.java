import java.io.IOException;
import java.nio.file.Files;
import java.nio.file.Path;
import java.util.ArrayList;
import java.util.List;
import java.util.regex.Matcher;
import java.util.regex.Pattern;
import java.util.stream.Stream;

/** Every sentence of the document's Terms and of each promise is quoted by a test that looks at it (Due.says). */
final class SentencesTest {
    public static void main(String[] args) throws IOException {
        List<String> quotes = quotes();
        if (Document.isHere()) {
            for (int promise = 1; promise <= 41; promise++) {
                String part = Document.between("## Promise " + promise + ":", promise == 41 ? "## Not promised" : "## Promise " + (promise + 1) + ":");
                allQuoted("promise " + promise, part.substring(part.indexOf("`:") + 2), quotes);
            }
            allQuoted("the terms", Document.between("## Terms", "Ahead of the calls"), quotes);
        }
        Due.holds("quotes are there", quotes.size() > 41);
        Due.end();
    }

    private static List<String> quotes() throws IOException {
        List<String> all = new ArrayList<>();
        Pattern says = Pattern.compile("Due\\.says\\(\"([^\"\\\\]*)\"\\)");
        try (Stream<Path> files = Files.list(Path.of("src/test/java"))) {
            for (Path file : files.filter(f -> f.toString().endsWith("EdgesTest.java")).toList()) {
                Matcher found = says.matcher(Files.readString(file));
                while (found.find()) {
                    all.add(found.group(1));
                }
            }
        }
        return all;
    }

    private static void allQuoted(String where, String part, List<String> quotes) {
        StringBuilder left = new StringBuilder(part);
        for (String quote : quotes) {
            for (int at = part.indexOf(quote); at >= 0; at = part.indexOf(quote, at + 1)) {
                for (int i = at; i < at + quote.length(); i++) {
                    left.setCharAt(i, ' ');
                }
            }
        }
        String rest = left.toString().replaceAll("```text|```|======== \\d", " ");
        Due.due("words of " + where + " that no test quotes: " + Document.oneLine(rest), rest.trim().length(), 0);
    }
}
