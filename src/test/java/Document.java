import java.io.IOException;
import java.nio.file.Files;
import java.nio.file.Path;
import java.util.ArrayList;
import java.util.LinkedHashMap;
import java.util.List;
import java.util.Map;

/** The document's sections, and which of their words some test has quoted. */
final class Document {
    private static final String PATH = System.getProperty("mapitch.document", "");
    private static final Map<String, String> TEXTS = new LinkedHashMap<>();
    private static final Map<String, StringBuilder> LEFT = new LinkedHashMap<>();
    private static final List<String> FACE = new ArrayList<>();

    static {
        load();
    }

    private Document() {
    }

    static boolean isThere() {
        return !TEXTS.isEmpty();
    }

    /** The methods of the document's face, as "int row(int,int,int)". */
    static List<String> face() {
        return FACE;
    }

    static boolean quote(String section, String words) {
        int at = TEXTS.getOrDefault(section, "").indexOf(words);
        if (at < 0) {
            return false;
        }
        for (int i = at; i < at + words.length(); i++) {
            LEFT.get(section).setCharAt(i, ' ');
        }
        return true;
    }

    /** The sections that still have words which no test has quoted, with these words. */
    static List<String> unquoted() {
        List<String> found = new ArrayList<>();
        for (Map.Entry<String, StringBuilder> one : LEFT.entrySet()) {
            String words = one.getValue().toString().replaceAll("[^A-Za-z0-9]+", " ").trim();
            if (!words.isEmpty()) {
                found.add(one.getKey() + ": " + words);
            }
        }
        return found;
    }

    private static void load() {
        Path path = Path.of(PATH);
        if (PATH.isEmpty() || !Files.isReadable(path)) {
            return;
        }
        String section = "";
        Map<String, StringBuilder> texts = new LinkedHashMap<>();
        for (String line : lines(path)) {
            if (line.startsWith("## ")) {
                section = line.substring(3).replaceAll(":.*", "");
            } else if (section.equals("The public face") && line.matches(" +public (int|long) \\w+\\(.*\\);")) {
                FACE.add(line.replaceAll("int \\w+(?=[,)])", "int").replaceAll(" +public |;|(?<=,) ", ""));
            } else if (isQuotable(section) && !line.startsWith("```") && !line.startsWith("Ahead of the calls")) {
                texts.computeIfAbsent(section, s -> new StringBuilder()).append(line).append(' ');
            }
        }
        for (Map.Entry<String, StringBuilder> one : texts.entrySet()) {
            String text = one.getValue().toString().replaceAll("^\\s*`[^`]*`:", "").replaceAll("\\s+", " ");
            TEXTS.put(one.getKey(), text);
            LEFT.put(one.getKey(), new StringBuilder(text));
        }
    }

    private static boolean isQuotable(String section) {
        return section.equals("Terms") || section.startsWith("Promise ");
    }

    private static List<String> lines(Path path) {
        try {
            return Files.readAllLines(path);
        } catch (IOException e) {
            return new ArrayList<>();
        }
    }
}
