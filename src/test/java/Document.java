import java.io.IOException;
import java.nio.file.Files;
import java.nio.file.Path;
import java.util.Arrays;
import java.util.LinkedHashMap;
import java.util.Map;

/** The sentences of DOC.md, and which of them the tests of boundaries have quoted. */
final class Document {
    private static final String LAST_SECTION = "Not promised";
    private static final Map<String, String> SECTIONS = new LinkedHashMap<>();
    private static final Map<String, boolean[]> QUOTED = new LinkedHashMap<>();

    private Document() {
    }

    /** Without the document the tests run all the same; then nobody looks at their quotations. */
    static void read(Path path) throws IOException {
        if (!Files.isReadable(path)) {
            System.out.println("no document at " + path + ": the quotations are not looked at");
            return;
        }
        String section = "";
        for (String line : Files.readString(path).split("\n")) {
            if (line.startsWith("## " + LAST_SECTION)) {
                break;
            }
            if (line.startsWith("#")) {
                section = line.replaceFirst("^#+ ", "").replaceFirst(":.*", "");
            } else if (!line.startsWith("```")) {
                SECTIONS.merge(section, line, (above, below) -> above + " " + below);
            }
        }
        SECTIONS.replaceAll((title, text) -> text.replace("`", "").replaceAll("\\s+", " ").trim());
        SECTIONS.forEach((title, text) -> QUOTED.put(title, new boolean[text.length()]));
    }

    static void quote(String section, String words) {
        if (SECTIONS.isEmpty()) {
            return;
        }
        String text = SECTIONS.getOrDefault(section, "");
        int at = text.indexOf(words);
        Check.holds("the document has, in \"" + section + "\": " + words, at >= 0);
        for (; at >= 0; at = text.indexOf(words, at + 1)) {
            Arrays.fill(QUOTED.get(section), at, at + words.length(), true);
        }
    }

    static void quoteAll(String section) {
        if (SECTIONS.containsKey(section)) {
            quote(section, SECTIONS.get(section));
        }
    }

    /** Each word has to be quoted by a test, or to be told of as one that names no boundary. */
    static void allIsQuoted() {
        SECTIONS.forEach((title, text) -> {
            StringBuilder left = new StringBuilder();
            for (int i = 0; i < text.length(); i++) {
                left.append(QUOTED.get(title)[i] ? '\n' : text.charAt(i));
            }
            for (String words : left.toString().split("\n+")) {
                Check.holds("a test quotes, of \"" + title + "\": " + words, !words.matches(".*[A-Za-z0-9].*"));
            }
        });
    }
}
