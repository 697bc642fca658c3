import java.io.IOException;
import java.io.UncheckedIOException;
import java.nio.charset.StandardCharsets;
import java.nio.file.Files;
import java.nio.file.Path;
import java.util.BitSet;
import java.util.LinkedHashMap;
import java.util.List;
import java.util.Map;

/**
 * The words of ../shared/DOC.md, section by section, and which of them the tests quote: so that no clause is left
 * without a test, and none is quoted that the document does not say. To be run in the project's folder.
 */
final class Sentences {
    private static final Path DOCUMENT = Path.of("../shared/DOC.md");
    private static final String COMMON = "What it is and Terms";
    private static final Map<String, StringBuilder> SECTIONS = read();
    private static final Map<String, BitSet> QUOTED = new LinkedHashMap<>();

    private Sentences() {
    }

    private static Map<String, StringBuilder> read() {
        Map<String, StringBuilder> sections = new LinkedHashMap<>();
        String section = "";
        boolean code = false;
        for (String line : lines()) {
            if (line.startsWith("## ")) {
                section = line.matches("## Promise \\d+:.*") ? line.replaceAll("## (Promise \\d+):.*", "$1") : line;
                section = section.equals("## What it is") || section.equals("## Terms") ? COMMON : section;
            }
            code ^= line.startsWith("```");
            if (!code && !line.isEmpty() && !line.startsWith("#") && !line.startsWith("```") && section.matches("[WP].*")) {
                // without the mark of a list and the head of a method
                String words = line.replaceAll("^- ", "").replaceAll("^`[^`]*\\)[^`]*`: ", "").trim();
                sections.computeIfAbsent(section, s -> new StringBuilder()).append(words).append(' ');
            }
        }
        return sections;
    }

    private static List<String> lines() {
        if (!Files.exists(DOCUMENT)) {
            System.out.println("there is no " + DOCUMENT + ": what the tests quote is not compared with it");
            return List.of();
        }
        try {
            return Files.readAllLines(DOCUMENT, StandardCharsets.ISO_8859_1);
        } catch (IOException e) {
            throw new UncheckedIOException(e);
        }
    }

    /** Notes that a test is for these words, which must stand under the promise or in the terms. */
    static void quote(int promise, String words) {
        if (SECTIONS.isEmpty()) {
            return;
        }
        int found = 0;
        for (String section : new String[] {COMMON, "Promise " + promise}) {
            found += note(section, words);
        }
        Check.due("the document says under promise " + promise + ": " + words, found > 0 ? 1 : 0, 1);
    }

    private static int note(String section, String words) {
        BitSet quoted = QUOTED.computeIfAbsent(section, s -> new BitSet());
        StringBuilder text = SECTIONS.getOrDefault(section, new StringBuilder());
        int found = 0;
        for (int at = text.indexOf(words); at >= 0; at = text.indexOf(words, at + 1)) {
            quoted.set(at, at + words.length());
            found++;
        }
        return found;
    }

    /** All words must be quoted by a test, but for "and" between two quotes, and for those given, which bind no answer. */
    static void allTested(String... headings) {
        if (SECTIONS.isEmpty()) {
            return;
        }
        Check.due("sections of the document", SECTIONS.size(), 25);
        for (Map.Entry<String, StringBuilder> section : SECTIONS.entrySet()) {
            BitSet quoted = QUOTED.getOrDefault(section.getKey(), new BitSet());
            int length = section.getValue().length();
            for (int from = quoted.nextClearBit(0); from < length; from = quoted.nextClearBit(from)) {
                int next = quoted.nextSetBit(from);
                int to = next < 0 ? length : next;
                String rest = section.getValue().substring(from, to).replaceAll("^[ ;:,.]+|[ ;:,.]+$", "");
                boolean left = !rest.isEmpty() && !rest.equals("and") && !List.of(headings).contains(rest);
                Check.due("words of " + section.getKey() + " without a test: " + rest, left ? 1 : 0, 0);
                from = to;
            }
        }
    }
}
