import java.io.IOException;
import java.nio.file.Files;
import java.nio.file.Path;
import java.util.ArrayList;
import java.util.LinkedHashMap;
import java.util.List;
import java.util.Map;

/** The document, by sections, and which of its words a test has quoted. */
final class Document {
    private final Map<String, String> texts = new LinkedHashMap<>();
    private final Map<String, boolean[]> quoted = new LinkedHashMap<>();

    Document(Path file) throws IOException {
        String[] parts = Files.readString(file).split("\n## ");
        for (int i = 1; i < parts.length; i++) {
            int end = parts[i].indexOf('\n');
            String title = parts[i].substring(0, end);
            String name = title.startsWith("Promise") ? title.substring(0, title.indexOf(':')) : title;
            String text = withoutSignature(parts[i].substring(end).trim());
            texts.put(name, text);
            quoted.put(name, new boolean[text.length()]);
        }
    }

    /** The text of a promise begins with the call's signature, which FaceTest compares. */
    private static String withoutSignature(String text) {
        return text.startsWith("`") ? text.substring(text.indexOf("`: ") + 3) : text;
    }

    List<String> promises() {
        List<String> names = new ArrayList<>();
        for (String name : texts.keySet()) {
            if (name.startsWith("Promise ")) {
                names.add(name);
            }
        }
        return names;
    }

    /** Marks words of a section as quoted, wherever they stand in it; tells whether they stand there. */
    boolean quote(String section, String words) {
        String text = texts.getOrDefault(section, "");
        int at = text.indexOf(words);
        boolean isThere = at >= 0;
        while (at >= 0) {
            for (int i = at; i < at + words.length(); i++) {
                quoted.get(section)[i] = true;
            }
            at = text.indexOf(words, at + 1);
        }
        return isThere;
    }

    /** The words of a section that nobody has quoted, but for signs between sentences. */
    List<String> leftOut(String section) {
        List<String> left = new ArrayList<>();
        String text = texts.get(section);
        StringBuilder run = new StringBuilder();
        for (int i = 0; i <= text.length(); i++) {
            if (i < text.length() && !quoted.get(section)[i]) {
                run.append(text.charAt(i));
            } else {
                if (run.chars().anyMatch(Character::isLetterOrDigit)) {
                    left.add(run.toString().trim());
                }
                run.setLength(0);
            }
        }
        return left;
    }
}
