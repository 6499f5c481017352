import java.io.IOException;
import java.nio.file.Files;
import java.nio.file.Path;
import java.util.ArrayList;
import java.util.List;
import java.util.Map;
import java.util.TreeMap;

/** The document's terms (with its beginning, as section 0) and promises, and which passages a test has quoted. */
final class Document {
    private static final Path PLACE = Path.of("../shared/DOC.md");

    private final Map<Integer, String> sections = new TreeMap<>();
    private final Map<Integer, boolean[]> quoted = new TreeMap<>();

    Document() {
        if (!isThere()) {
            System.out.println("no document at " + PLACE + ": the quotes are not looked up");
            return;
        }
        for (Map.Entry<Integer, StringBuilder> section : read().entrySet()) {
            String text = section.getValue().toString().replaceAll("\\s+", " ").trim();
            // a promise begins with the call as the interface has it, which FaceTest looks at
            String words = section.getKey() == 0 ? text : text.substring(text.indexOf("`: ") + 3);
            sections.put(section.getKey(), words);
            quoted.put(section.getKey(), new boolean[words.length()]);
        }
    }

    static boolean isThere() {
        return Files.isReadable(PLACE);
    }

    private static Map<Integer, StringBuilder> read() {
        Map<Integer, StringBuilder> found = new TreeMap<>();
        int section = -1;
        for (String line : lines()) {
            if (line.startsWith("## ")) {
                section = numberOf(line);
            } else if (section >= 0 && !line.startsWith("```")) {
                found.computeIfAbsent(section, s -> new StringBuilder()).append(line).append(' ');
            }
        }
        return found;
    }

    private static List<String> lines() {
        try {
            return Files.readAllLines(PLACE);
        } catch (IOException e) {
            throw new IllegalStateException(e);
        }
    }

    private static int numberOf(String heading) {
        if (heading.equals("## What it is") || heading.equals("## Terms")) {
            return 0;
        }
        return heading.startsWith("## Promise ") ? Integer.parseInt(heading.replaceAll("\\D+(\\d+):.*", "$1")) : -1;
    }

    /** Whether the passage stands in the section; it counts as quoted then, wherever it stands there. */
    boolean quote(int section, String passage) {
        if (sections.isEmpty()) {
            return true;
        }
        String text = sections.getOrDefault(section, "");
        int at = text.indexOf(passage);
        boolean found = at >= 0;
        while (at >= 0) {
            java.util.Arrays.fill(quoted.get(section), at, at + passage.length(), true);
            at = text.indexOf(passage, at + 1);
        }
        return found;
    }

    /** What no test has quoted; single signs and numbers of list items do not count. */
    List<String> unquoted() {
        List<String> found = new ArrayList<>();
        for (Map.Entry<Integer, String> section : sections.entrySet()) {
            StringBuilder rest = new StringBuilder();
            for (int i = 0; i < section.getValue().length(); i++) {
                rest.append(quoted.get(section.getKey())[i] ? '\n' : section.getValue().charAt(i));
            }
            for (String part : rest.toString().split("\n+")) {
                if (part.replaceAll("[^A-Za-z0-9]", "").length() > 1) {
                    found.add("section " + section.getKey() + ": " + part.trim());
                }
            }
        }
        return found;
    }
}
