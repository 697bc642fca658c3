import java.io.IOException;
import java.nio.charset.StandardCharsets;
import java.nio.file.Files;
import java.nio.file.Path;
import java.util.Map;
import java.util.TreeMap;
import java.util.regex.Matcher;
import java.util.regex.Pattern;

/** Rules of ../shared/LANGUAGE.md that can be seen in the text of the program. Run it in the project's folder. */
public final class SourceTest {
    private static final String[] FORBIDDEN = {"->", "::", "\\btry\\b", "\\bcatch\\b", "\\bfinally\\b", "\\bassert\\b",
        "\\bsynchronized\\b", "\\bpackage\\b", "\\bprotected\\b", "\\bvar\\b", "\\brecord\\b", "\\bstatic\\s*\\{",
        "\\bDouble\\b", "\\bThread\\b", "\\bRandom\\b", "\\bObject\\b", "\\bhashCode\\b", "\\btoString\\b",
        "\\bequals\\b", "Exact\\b", "@Override", "\\bSystem\\.(?!arraycopy\\b)", "\\bArrays\\.(?!fill\\b|copyOf)",
        "\\bInteger\\.(?!bitCount\\b|compare\\b)", "\\bLong\\.(?!bitCount\\b|compare\\b)",
        "\\bMath\\.(?!max\\b|min\\b|abs\\b|floorDiv\\b|floorMod\\b)", "\" *\\+", "\\+ *\"",
        "\\bimport (?!java\\.util\\.Arrays;)", "\\bthrow (?!new (IllegalArgumentException|IllegalStateException"
            + "|IndexOutOfBoundsException)\\(\"[^\"]*\"\\);)"};

    public static void main(String[] args) throws IOException {
        byte[] bytes = Files.readAllBytes(Path.of("src/main/java/LadderRelays.java"));
        String source = new String(bytes, StandardCharsets.ISO_8859_1);
        for (byte b : bytes) {
            if (b < 0) {
                Check.due("a sign beyond 127", b, 0);
            }
        }
        String code = source.replaceAll("(?s)/\\*.*?\\*/", "").replaceAll("//[^\n]*", "");
        for (String pattern : FORBIDDEN) {
            Matcher m = Pattern.compile(pattern).matcher(code);
            Check.due("forbidden: " + pattern, m.find() ? m.group() : "", "");
        }
        int classes = code.split("\\bclass\\b", -1).length - 1;
        Check.due("few classes", classes <= 12 ? 1 : 0, 1);
        methods(code);
        objects(code);
        Check.end();
    }

    /** Methods stay short and take at most seven parameters. */
    private static void methods(String code) {
        Pattern head = Pattern.compile("(?m)^( +)(?:private |public |static )*[\\w\\[\\]]+ (\\w+)\\(([^)]*)\\)[^;{]*\\{$");
        Matcher m = head.matcher(code);
        Map<String, String> bodies = new TreeMap<>();
        while (m.find()) {
            int end = code.indexOf("\n" + m.group(1) + "}", m.end());
            long lines = code.substring(m.start(), end).lines().count() + 1;
            Check.due(m.group(2) + " is short", lines <= 60 ? 1 : 0, 1);
            bodies.put(m.group(2), code.substring(m.end(), end));
            Check.due(m.group(2) + " takes few", m.group(3).split(",").length <= 7 ? 1 : 0, 1);
        }
        Check.due("methods found", bodies.size() > 80 ? 1 : 0, 1);
        for (String name : bodies.keySet()) {
            Check.due(name + " does not call deep", depth(name, bodies, 1) <= 8 ? 1 : 0, 1);
        }
    }

    /** Objects are made by fields and by the constructor, so that no call makes one but the exception that it throws. */
    private static void objects(String code) {
        int start = code.indexOf("    public LadderRelays() {");
        String others = code.substring(0, start) + code.substring(code.indexOf("\n    }\n", start));
        Matcher m = Pattern.compile("(?m)^.*\\bnew\\b.*$|^.*[\\w\\])] = \\{.*$|^.*\\bclone\\b.*$|^.*copyOf\\w*\\(.*$").matcher(others);
        int made = 0;
        while (m.find()) {
            String line = m.group().trim();
            boolean right = line.startsWith("throw new ") || line.matches("(private )?(static )?final .*");
            made++;
            Check.due("an object is made by " + line, right ? 1 : 0, 1);
        }
        Check.due("lines that make objects found", made > 30 ? 1 : 0, 1);
    }

    /** How many calls stand open at once at the most, the library's among them; 99 for a recursion. */
    private static int depth(String name, Map<String, String> bodies, int above) {
        int deepest = 1;
        if (above > 20) {
            return 99;
        }
        Matcher m = Pattern.compile("\\b(\\w+)\\(").matcher(bodies.getOrDefault(name, ""));
        while (m.find()) {
            boolean call = !m.group(1).matches("if|for|while|switch|return");
            deepest = Math.max(deepest, call ? 1 + depth(m.group(1), bodies, above + 1) : 1);
        }
        return deepest;
    }
}
