import java.io.IOException;
import java.nio.charset.StandardCharsets;
import java.nio.file.Files;
import java.nio.file.Path;
import java.util.HashMap;
import java.util.Map;

/** The document by its parts, and how much of each part the tests have quoted. */
final class Document {
    private final Map<String, String> texts = new HashMap<>();
    private final Map<String, boolean[]> quoted = new HashMap<>();

    /** The parts are "What it is", "Section 1" to "Section 7" and "Promise 1" to "Promise 40". */
    Document() throws IOException {
        String part = "";
        StringBuilder text = new StringBuilder();
        for (String line : Files.readAllLines(Path.of("../shared/DOC.md"), StandardCharsets.UTF_8)) {
            boolean isSection = part.matches("Description|Section .") && line.matches("[1-7]\\. [A-Z].*");
            if (!isSection && !line.startsWith("## ")) {
                text.append(line).append('\n');
                continue;
            }
            put(part, text.toString());
            text.setLength(0);
            part = isSection ? "Section " + line.charAt(0) : line.substring(3).replaceAll(":.*", "");
        }
        put(part, text.toString());
    }

    private void put(String part, String text) {
        String plain = plain(text);
        texts.put(part, plain);
        quoted.put(part, new boolean[plain.length()]);
    }

    private static String plain(String text) {
        return text.replaceAll("\\s+", " ").trim();
    }

    /** The first thing between two ` in a promise is its signature, which FaceTest looks at. */
    String signature(String part) {
        String text = texts.getOrDefault(part, "");
        int from = text.indexOf('`');
        int to = text.indexOf('`', from + 1);
        return part.startsWith("Promise") && from >= 0 && to > from ? text.substring(from, to + 1) : "";
    }

    /** Marks each place of a part where these words stand; tells whether there is one. */
    boolean quote(String part, String words) {
        String text = texts.getOrDefault(part, "");
        String wanted = plain(words);
        boolean found = false;
        if (wanted.isEmpty()) return found;
        for (int at = text.indexOf(wanted); at >= 0; at = text.indexOf(wanted, at + 1)) {
            found = true;
            for (int n = 0; n < wanted.length(); n++) quoted.get(part)[at + n] = true;
        }
        return found;
    }

    /** The words of a part that nobody has quoted. */
    String unquoted(String part) {
        String text = texts.getOrDefault(part, "there is no such part");
        StringBuilder left = new StringBuilder();
        for (int n = 0; n < text.length(); n++) left.append(isQuoted(part, n) ? ' ' : text.charAt(n));
        String words = plain(left.toString());
        return words.matches("[^A-Za-z0-9]*") ? "" : words;
    }

    private boolean isQuoted(String part, int place) {
        boolean[] marks = quoted.get(part);
        return marks != null && marks[place];
    }
}
