import java.io.IOException;
import java.nio.charset.StandardCharsets;
import java.nio.file.Files;
import java.nio.file.Path;
import java.util.ArrayList;
import java.util.LinkedHashMap;
import java.util.List;
import java.util.Map;

/**
 * Tests that stand under the words of the document that they test. At the end the words are looked
 * up in the document: they must stand in their section, and no word of it may be without a test.
 */
final class Sentences extends Checks {
    private static final Path DOCUMENT = Path.of("../shared/DOC.md");

    private final Map<String, List<String>> quotes = new LinkedHashMap<>();
    private String section = "";

    void section(String heading) {
        section = heading;
        quotes.putIfAbsent(heading, new ArrayList<>());
    }

    void says(String words, Runnable test) {
        quotes.get(section).add(words);
        under(section + ", \"" + words + "\": ");
        int before = made();
        test.run();
        holds("something is tested", made() > before);
    }

    @Override
    void end() {
        if (Files.isReadable(DOCUMENT)) {
            compareWithDocument();
        } else {
            System.out.println("not compared with the document, for it isn't there: " + DOCUMENT);
        }
        super.end();
    }

    private void compareWithDocument() {
        String document = read();
        for (Map.Entry<String, List<String>> entry : quotes.entrySet()) {
            under(entry.getKey() + ": ");
            compare(textOf(document, entry.getKey()), entry.getValue());
        }
    }

    private static String read() {
        try {
            return Files.readString(DOCUMENT, StandardCharsets.UTF_8);
        } catch (IOException e) {
            return "";
        }
    }

    /** The text below a heading, in one line, without the signature that a promise begins with. */
    private static String textOf(String document, String heading) {
        int start = document.indexOf("## " + heading + "\n");
        if (start < 0) {
            return "";
        }
        int from = document.indexOf('\n', start);
        int next = document.indexOf("\n## ", from);
        String text = document.substring(from, next < 0 ? document.length() : next);
        return text.replaceAll("\\s+", " ").trim().replaceFirst("^`[^`]*`: ", "");
    }

    private void compare(String text, List<String> words) {
        boolean[] quoted = new boolean[text.length()];
        for (String some : words) {
            holds("the document says \"" + some + "\"", text.contains(some));
            for (int at = text.indexOf(some); at >= 0; at = text.indexOf(some, at + 1)) {
                java.util.Arrays.fill(quoted, at, at + some.length(), true);
            }
        }
        StringBuilder left = new StringBuilder();
        for (int i = 0; i < text.length(); i++) {
            boolean counts = Character.isLetterOrDigit(text.charAt(i));
            left.append(counts && !quoted[i] ? String.valueOf(text.charAt(i)) : "");
        }
        holds("every word has a test; these have none: " + left, left.length() == 0);
    }
}
