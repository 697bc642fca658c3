import java.io.IOException;
import java.io.UncheckedIOException;
import java.lang.reflect.Method;
import java.lang.reflect.Modifier;
import java.nio.charset.StandardCharsets;
import java.nio.file.Files;
import java.nio.file.Path;
import java.util.Arrays;
import java.util.regex.Matcher;
import java.util.regex.Pattern;

/** What the document says of the whole: what it is, which numbers there are, and which calls only look. */
final class FaceEdges {
    private static final Path PROGRAM = Path.of("src/main/java/LadderRelays.java");
    /** Also those one beyond the greatest that a call takes. */
    private static final int MOST_ARGUMENT = 16;

    private FaceEdges() {
    }

    static void all() {
        Edge.test(1, "Sluggish relays drawn as ladders: inputs, relays with rungs of contacts that close or open, times that "
            + "relays take to pull and to drop, ticks until all is quiet, relays that hold themselves, races by which relay is "
            + "first when several are due, ways that never come to rest, the least delay that cures a race, what each setting "
            + "of the inputs leads to, contacts that do nothing, ladders as texts with errors by place, and undo.",
            FaceEdges::story);
        Edge.test(1, "Creates a ladder", FaceEdges::twoObjects);
        Edge.test(1, "All numbers are integers, but for a share.", FaceEdges::numbers);
        headings();
        looks();
    }

    private static void story() {
        LadderRelays x = Edge.typed(Edge.bare(1), "0=a+0!b;u0:2;v0:1?");
        Edge.due("the place of the error", x.firstError(), 17);
        Check.type(x, "0=a+0!b;u0:2;v0:1");
        Edge.due("orders drawn", x.draw(), 3);
        Edge.due("an input calls it", x.press(0), 1);
        Edge.due("ticks until all is quiet", x.settle(), 3);
        Edge.due("it holds itself", x.press(0), 0);
        Edge.due("which hold", x.holding(), 1);
        Edge.due("what the other input leads to", x.leads(2, 0), 0);
        Edge.due("by its time to drop", x.leads(2, 1), 2);
        Edge.due("the opening contact lets it go", x.press(1), 1);
        Edge.due("one change", x.run(2), 1);
        Edge.due("down", x.relay(0, 0), 0);
        x.undo();
        Edge.due("up again", x.relay(0, 0), 1);
        LadderRelays y = Edge.pressed(1, "00 a!1", "00 a!0");
        Edge.due("rests of a race", y.race(0), 2);
        Edge.due("a way that never comes to rest", y.race(3), 1);
        Edge.due("the least delay that cures it", y.cure(0), 1);
        Edge.due("a contact that does nothing", Edge.ladder("00 a ab").idle(0), 1);
    }

    /** Calls of one object in turn with those of another one change nothing of it. */
    private static void twoObjects() {
        LadderRelays x = UndoEdges.busy();
        String before = Told.of(x);
        LadderRelays y = new LadderRelays();
        Edge.due("a second one is new", y.count(0) + y.count(4) + y.count(9) + y.clearBuffer(), 0);
        Edge.press(y, 15);
        y.add(9, 9);
        y.branch(0, 1, 16);
        Check.type(y, "u0:0");
        y.draw();
        y.run(3);
        y.undo();
        y.race(0);
        Check.due("the first one is as before", Told.of(x), before);
        Check.due("with its saved states", Told.usingUp(x), Told.usingUp(UndoEdges.busy()));
    }

    private static void numbers() {
        for (Method m : LadderRelays.class.getDeclaredMethods()) {
            if (Modifier.isPublic(m.getModifiers())) {
                String type = m.getReturnType().getName();
                String want = m.getName().equals("quietShare") ? "double" : m.getName().equals("digest") ? "long" : "int";
                Check.due("answer of " + m.getName(), type, want);
                for (Class<?> argument : m.getParameterTypes()) {
                    Check.due("argument of " + m.getName(), argument.getName(), "int");
                }
            }
        }
        Check.due("a share that is no integer", Double.toString(Edge.ladder("00", "00 !a").quietShare()), "0.5");
    }

    private static void headings() {
        String[] sentences = {
            "Ahead of the calls `add`, `branch`, `strip`, `delay` the interface says: ---- the ladder.",
            "Ahead of the calls `press`, `run`, `settle`, `reset` the interface says: ---- running.",
            "Ahead of the calls `append`, `clearBuffer`, `firstError`, `draw`, `undo` the interface says: ---- texts.",
            "Ahead of the calls `relay`, `contacts`, `count` the interface says: ---- looks; nothing is changed.",
            "Ahead of the calls `leads`, `race`, `cure`, `holding`, `idle`, `quietShare`, `digest` the interface says: ---- "
                + "what would be; nothing is changed."};
        for (String sentence : sentences) {
            Edge.test(1, sentence, () -> {
                Matcher m = Pattern.compile("calls (.*) the interface says: (.*)\\.$").matcher(sentence);
                Check.due("it names calls", m.find() ? 1 : 0, 1);
                Check.due("calls behind " + m.group(2), callsBehind(m.group(2)), m.group(1).replaceAll("[`,]", ""));
            });
        }
    }

    /** The public calls that the program has behind this heading, up to the next one. */
    private static String callsBehind(String heading) {
        String source = source();
        int start = source.indexOf("    // " + heading + "\n");
        if (start < 0) {
            return "there is no such heading";
        }
        int end = source.indexOf("\n    // ----", start);
        StringBuilder calls = new StringBuilder();
        Matcher m = Pattern.compile("(?m)^    public \\w+ (\\w+)\\(").matcher(source.substring(start, end));
        while (m.find()) {
            calls.append(calls.length() > 0 ? " " : "").append(m.group(1));
        }
        return calls.toString();
    }

    private static String source() {
        try {
            return Files.readString(PROGRAM, StandardCharsets.ISO_8859_1);
        } catch (IOException e) {
            throw new UncheckedIOException(e);
        }
    }

    private static void looks() {
        Edge.test(15, "Ahead of the calls `relay`, `contacts`, `count` the interface says: ---- looks; nothing is changed.", () ->
            onlyLook("relay", "contacts", "count"));
        Edge.test(18, "---- what would be; nothing is changed.", () ->
            onlyLook("leads", "race", "cure", "holding", "idle", "quietShare", "digest"));
        // the document marks firstError by no heading, but it tells of no change either
        Edge.test(12, "Finds the first syntax error of the buffer.", () -> onlyLook("firstError"));
    }

    /** These calls, with all arguments that they take and some that they refuse, leave all as it is without them. */
    private static void onlyLook(String... names) {
        Edge.Maker[] makers = {LadderRelays::new, UndoEdges::busy, () -> RunningEdges.ringAhead(201),
            () -> Edge.typed(Edge.pressed(1, "00 a!1", "00 a!0", "12 0 !1 !0 1"), "0=a;;")};
        for (int i = 0; i < makers.length; i++) {
            LadderRelays x = makers[i].make();
            for (String name : names) {
                callWithAll(x, name);
            }
            Check.due("ladder " + i + " after " + Arrays.toString(names), Told.usingUp(x), Told.usingUp(makers[i].make()));
        }
    }

    private static void callWithAll(LadderRelays x, String name) {
        int arguments = argumentsOf(name);
        int[] given = new int[arguments];
        Arrays.fill(given, -1);
        int last = 0;
        while (last >= 0) {
            Edge.answer(x, name, given);
            last = arguments - 1;
            while (last >= 0 && given[last] == MOST_ARGUMENT) {
                given[last] = -1;
                last--;
            }
            if (last >= 0) {
                given[last]++;
            }
        }
    }

    private static int argumentsOf(String name) {
        for (Method m : LadderRelays.class.getDeclaredMethods()) {
            if (m.getName().equals(name)) {
                return m.getParameterCount();
            }
        }
        throw new AssertionError("there is no " + name);
    }
}
