import java.io.IOException;
import java.lang.reflect.Method;
import java.lang.reflect.Modifier;
import java.nio.charset.StandardCharsets;
import java.nio.file.Files;
import java.nio.file.Path;
import java.util.HashMap;
import java.util.Map;
import java.util.regex.Matcher;
import java.util.regex.Pattern;

/** The examples of README.md answer what stands behind them, and it names all calls. Run it in the project's folder. */
public final class ReadmeTest {
    private static final Pattern MADE = Pattern.compile("LadderRelays (\\w+) = new LadderRelays\\(\\);");
    private static final Pattern CALL = Pattern.compile("(\\w+)\\.(\\w+)\\(([^)]*)\\);");
    private static final Pattern TOLD = Pattern.compile("// (-?\\d+)(:.*)?$");

    private static final Map<String, LadderRelays> LADDERS = new HashMap<>();

    private ReadmeTest() {
    }

    public static void main(String[] args) throws IOException {
        String page = Files.readString(Path.of("README.md"), StandardCharsets.ISO_8859_1);
        String[] parts = page.split("```java\n|```\n");
        int told = 0;
        for (int i = 1; i < parts.length; i += 2) {
            for (String line : parts[i].split("\n")) {
                told += show(line);
            }
        }
        Check.due("answers shown are found", told > 12 ? 1 : 0, 1);
        for (Method m : LadderRelays.class.getDeclaredMethods()) {
            if (Modifier.isPublic(m.getModifiers())) {
                Check.due("it names " + m.getName(), page.contains("`" + m.getName() + "(") ? 1 : 0, 1);
            }
        }
        Check.end();
    }

    /** Does what a line of an example says; 1 if it tells the answer. */
    private static int show(String line) {
        Matcher made = MADE.matcher(line);
        if (made.find()) {
            LADDERS.put(made.group(1), new LadderRelays());
            return 0;
        }
        String answer = "no call";
        for (Matcher call = CALL.matcher(line); call.find();) {
            answer = Edge.answer(LADDERS.get(call.group(1)), call.group(2), numbers(call.group(3)));
        }
        Matcher told = TOLD.matcher(line);
        boolean tells = told.find();
        Check.due("README.md: " + line, answer, tells ? told.group(1) : "an answer told behind it");
        return tells ? 1 : 0;
    }

    private static int[] numbers(String list) {
        String[] parts = list.isEmpty() ? new String[0] : list.split(", ");
        int[] numbers = new int[parts.length];
        for (int i = 0; i < parts.length; i++) {
            boolean sign = parts[i].startsWith("'");
            numbers[i] = sign ? parts[i].charAt(1) : Integer.parseInt(parts[i]);
        }
        return numbers;
    }
}
