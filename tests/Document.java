import java.io.IOException;
import java.nio.file.Files;
import java.nio.file.Path;
import java.util.ArrayList;
import java.util.List;
import java.util.Map;
import java.util.TreeMap;

/**
 * The sentences of the document: under 0 those that stand before promise 1, but for the first one, which tells what the class
 * is; and under its number those of a promise.
 */
final class Document {
    private final Map<Integer, List<String>> sentences = new TreeMap<>();

    Document() throws IOException {
        String text = Files.readString(Path.of("../shared/DOC.md")).replaceAll("(?s)```.*?```", "");
        for (String part : text.split("(?m)^## ")) {
            String head = part.lines().findFirst().orElse("");
            String body = part.substring(head.length());
            if (head.startsWith("Promise ")) {
                add(Integer.parseInt(head.replaceAll("\\D+(\\d+):.*", "$1")), body);
            } else if (head.equals("What it is")) {
                add(0, body.substring(body.indexOf("An object is used")));
            } else if (head.equals("Terms")) {
                add(0, body);
            }
        }
    }

    /** The form of a method and the stroke of a list stand before a sentence, and are no part of it. */
    private void add(int promise, String body) {
        List<String> found = sentences.computeIfAbsent(promise, number -> new ArrayList<>());
        for (String block : body.split("\\n\\s*\\n|\\n(?=- )")) {
            String told = plain(block).replaceFirst("^`[^`]*\\)[^`]*`: ", "").replaceFirst("^- ", "");
            for (String sentence : told.split("(?<=[.;]) ")) {
                if (!sentence.isEmpty()) {
                    found.add(sentence);
                }
            }
        }
    }

    private static String plain(String text) {
        return text.strip().replaceAll("\\s+", " ");
    }

    Map<Integer, List<String>> all() {
        return sentences;
    }

    /** Whether a promise, or what stands before all of them, says so. */
    boolean says(int promise, String sentence) {
        return String.join(" ", sentences.getOrDefault(promise, List.of())).contains(sentence)
            || String.join(" ", sentences.get(0)).contains(sentence);
    }
}
