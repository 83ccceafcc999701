import java.io.IOException;
import java.nio.file.Files;
import java.nio.file.Path;
import java.util.ArrayList;
import java.util.BitSet;
import java.util.LinkedHashMap;
import java.util.List;
import java.util.Map;

/** The words of DOC.md by its sections, and which of them stand above a test. */
final class Document {
    private final Map<String, String> texts = new LinkedHashMap<>();
    private final Map<String, BitSet> quoted = new LinkedHashMap<>();

    /** Reads the sections in which something is promised; of "Promise 2: append" the name is "Promise 2". */
    static Document read(Path path) throws IOException {
        Document document = new Document();
        String section = "";
        for (String line : Files.readAllLines(path)) {
            if (line.startsWith("## ")) {
                section = line.substring(3).replaceFirst(":.*", "");
            } else if (section.matches("What it is|Terms|Promise \\d+")) {
                document.texts.merge(section, plain(line), (before, more) -> inOneLine(before + " " + more));
            }
        }
        for (String name : document.texts.keySet()) {
            document.quoted.put(name, new BitSet());
        }
        return document;
    }

    /** A line without the signature ahead of it, without its mark in a list, and without backticks. */
    private static String plain(String line) {
        return inOneLine(line.replaceFirst("^`[^`]*\\)[^`]*`: ", "").replaceFirst("^- ", "").replace("`", ""));
    }

    private static String inOneLine(String text) {
        return text.replaceAll("\\s+", " ").trim();
    }

    /** Notes that these words stand above a test; false if the section does not say so. */
    boolean quote(String section, String words) {
        int at = texts.getOrDefault(section, "").indexOf(words);
        if (at < 0) {
            return false;
        }
        quoted.get(section).set(at, at + words.length());
        return true;
    }

    /** What stands above no test, each piece with its section. */
    List<String> notQuoted() {
        List<String> pieces = new ArrayList<>();
        for (Map.Entry<String, String> entry : texts.entrySet()) {
            String text = entry.getValue();
            BitSet marks = quoted.get(entry.getKey());
            for (int at = marks.nextClearBit(0); at < text.length(); ) {
                int next = marks.nextSetBit(at);
                int end = next < 0 ? text.length() : next;
                String piece = text.substring(at, end);
                if (piece.matches(".*[A-Za-z0-9].*")) {
                    pieces.add(entry.getKey() + ": " + piece);
                }
                at = marks.nextClearBit(end);
            }
        }
        return pieces;
    }
}
