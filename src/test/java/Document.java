import java.io.IOException;
import java.nio.file.Files;
import java.nio.file.Path;
import java.util.LinkedHashMap;
import java.util.Map;
import java.util.Set;

/** ../shared/DOC.md, cut at its headings and at the points of its terms. */
final class Document {
    private final Map<String, StringBuilder> texts = new LinkedHashMap<>();

    Document() throws IOException {
        String at = "";
        for (String line : Files.readAllLines(Path.of("../shared/DOC.md"))) {
            String rest = line;
            if (line.startsWith("## ")) {
                at = line.substring(3).replaceFirst(":.*", "");
                rest = "";
            } else if (line.startsWith("==== ")) {
                at = "Terms " + line.charAt(5);
                rest = line.substring(7);
            } else if (line.startsWith("```")) {
                rest = "";
            }
            texts.computeIfAbsent(at, x -> new StringBuilder()).append(' ').append(rest);
        }
    }

    Set<String> headings() {
        return texts.keySet();
    }

    boolean says(String at, String words) {
        return texts.containsKey(at) && plain(texts.get(at)).contains(words);
    }

    private static String plain(CharSequence text) {
        return text.toString().replaceAll("\\s+", " ");
    }
}
