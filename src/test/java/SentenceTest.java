import java.io.IOException;
import java.nio.charset.StandardCharsets;
import java.nio.file.DirectoryStream;
import java.nio.file.Files;
import java.nio.file.Path;
import java.nio.file.Paths;
import java.util.ArrayList;
import java.util.List;
import java.util.regex.Matcher;
import java.util.regex.Pattern;

/**
 * What the tests quote with Check.says(..) stands in the document, and all that the document promises is quoted:
 * no sentence of the Terms or of a promise is without a test that names it.
 */
public final class SentenceTest {
    private static final Path DOCUMENT = Paths.get("../shared/DOC.md");
    private static final Path TESTS = Paths.get("src/test/java");
    private static final Pattern QUOTE = Pattern.compile("says\\(((?:\\s*\"(?:[^\"\\\\]|\\\\.)*\"\\s*\\+?)+)\\)");
    private static final Pattern LITERAL = Pattern.compile("\"((?:[^\"\\\\]|\\\\.)*)\"");

    private static String plain(String text) {
        return text.replace("```text", " ").replace("```java", " ").replace("```", " ").replaceAll("\\s+", " ").trim();
    }

    private static List<String> quotes() throws IOException {
        List<String> all = new ArrayList<>();
        try (DirectoryStream<Path> files = Files.newDirectoryStream(TESTS, "*Test.java")) {
            for (Path file : files) {
                Matcher m = QUOTE.matcher(new String(Files.readAllBytes(file), StandardCharsets.UTF_8));
                while (m.find()) {
                    StringBuilder words = new StringBuilder();
                    Matcher part = LITERAL.matcher(m.group(1));
                    while (part.find()) {
                        words.append(part.group(1));
                    }
                    all.add(plain(words.toString()));
                }
            }
        }
        return all;
    }

    /** The Terms, and behind each promise's signature its words. */
    private static List<String> promised(String document) {
        List<String> parts = new ArrayList<>();
        for (String section : document.split("(?m)^## ")) {
            int line = section.indexOf('\n');
            if (section.startsWith("Terms")) {
                for (String term : section.substring(line).split("(?m)^==== [1-4]\\.")) {
                    parts.add(plain(term));
                }
            } else if (section.startsWith("Promise ")) {
                parts.add(plain(section.substring(section.indexOf("`: ") + 3)));
            }
        }
        return parts;
    }

    /** Marks what is quoted, and says what is left. */
    private static String left(String part, List<String> quotes) {
        boolean[] quoted = new boolean[part.length()];
        for (String quote : quotes) {
            for (int at = part.indexOf(quote); at >= 0; at = part.indexOf(quote, at + 1)) {
                for (int i = at; i < at + quote.length(); i++) {
                    quoted[i] = true;
                }
            }
        }
        StringBuilder rest = new StringBuilder();
        for (int i = 0; i < part.length(); i++) {
            if (!quoted[i] && part.charAt(i) != ' ') {
                rest.append(part.charAt(i));
            }
        }
        return rest.toString();
    }

    public static void main(String[] args) throws IOException {
        String document = new String(Files.readAllBytes(DOCUMENT), StandardCharsets.UTF_8);
        List<String> quotes = quotes();
        String all = plain(document);
        for (String quote : quotes) {
            Check.isSo("in the document: " + quote, all.contains(quote));
        }
        List<String> parts = promised(document);
        Check.due("the beginning of the Terms, its four parts, 33 promises", parts.size(), 5 + 33);
        for (String part : parts) {
            String rest = left(part, quotes);
            Check.isSo("without a test: " + rest + " of: " + part, rest.isEmpty());
        }
        Check.close("SentenceTest");
    }
}
