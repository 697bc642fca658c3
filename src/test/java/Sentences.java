import java.io.IOException;
import java.io.UncheckedIOException;
import java.nio.charset.StandardCharsets;
import java.nio.file.Files;
import java.nio.file.Path;
import java.util.ArrayList;
import java.util.HashSet;
import java.util.LinkedHashMap;
import java.util.List;
import java.util.Map;
import java.util.Set;

/**
 * The sentences of ../shared/DOC.md, split at semicolons, too, and which of them the tests quote: so that no sentence
 * is left without a test, and none is quoted that the document does not say. To be run in the project's folder.
 */
final class Sentences {
    private static final Path DOCUMENT = Path.of("../shared/DOC.md");
    private static final String COMMON = "What it is and Terms";
    private static final Map<String, List<String>> SECTIONS = read();
    private static final Set<String> TESTED = new HashSet<>();

    private Sentences() {
    }

    private static Map<String, List<String>> read() {
        Map<String, List<String>> sections = new LinkedHashMap<>();
        String section = "";
        boolean code = false;
        for (String line : lines()) {
            if (line.startsWith("## ")) {
                section = line.matches("## Promise \\d+:.*") ? line.replaceAll("## (Promise \\d+):.*", "$1") : line;
                section = section.equals("## What it is") || section.equals("## Terms") ? COMMON : section;
            }
            code ^= line.startsWith("```");
            if (!code && !line.startsWith("#") && !line.startsWith("```") && section.matches("[WP].*")) {
                List<String> told = sections.computeIfAbsent(section, s -> new ArrayList<>());
                for (String part : split(line)) {
                    told.add(part);
                }
            }
        }
        return sections;
    }

    private static List<String> lines() {
        if (!Files.exists(DOCUMENT)) {
            System.out.println("there is no " + DOCUMENT + ": what the tests quote is not compared with it");
            return List.of();
        }
        try {
            return Files.readAllLines(DOCUMENT, StandardCharsets.ISO_8859_1);
        } catch (IOException e) {
            throw new UncheckedIOException(e);
        }
    }

    /** A line without the mark of a list and the head of a method, in sentences or halves of them. */
    private static List<String> split(String line) {
        String words = line.replaceAll("^- ", "").replaceAll("^`[^`]*\\)[^`]*`: ", "").trim();
        List<String> parts = new ArrayList<>();
        for (String part : words.split("(?<=[.]) +(?=[A-Z])|(?<=;) +")) {
            if (!part.isEmpty()) {
                parts.add(part);
            }
        }
        return parts;
    }

    /** Notes that a test is for these words, which must stand under the promise or in the terms. */
    static void quote(int promise, String words) {
        if (SECTIONS.isEmpty()) {
            return;
        }
        int found = 0;
        for (String section : new String[] {COMMON, "Promise " + promise}) {
            String all = String.join(" ", SECTIONS.getOrDefault(section, List.of()));
            if (all.contains(words)) {
                found++;
                note(section, words);
            }
        }
        Check.due("the document says under promise " + promise + ": " + words, found > 0 ? 1 : 0, 1);
    }

    private static void note(String section, String words) {
        for (String part : SECTIONS.get(section)) {
            if (words.contains(part.replaceAll(";$", "")) || part.contains(words)) {
                TESTED.add(section + ": " + part);
            }
        }
    }

    /** Each sentence must be quoted by a test, but for those given, which name no boundary. */
    static void allTested(String... others) {
        if (SECTIONS.isEmpty()) {
            return;
        }
        Check.due("sections of the document", SECTIONS.size(), 25);
        for (Map.Entry<String, List<String>> section : SECTIONS.entrySet()) {
            for (String part : section.getValue()) {
                boolean other = false;
                for (String start : others) {
                    other |= part.startsWith(start);
                }
                String name = section.getKey() + ": " + part;
                Check.due("a test is for " + name, other || TESTED.contains(name) ? 1 : 0, 1);
            }
        }
    }
}
