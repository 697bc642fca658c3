import java.lang.reflect.InvocationTargetException;
import java.lang.reflect.Method;
import java.util.Arrays;
import java.util.HashMap;
import java.util.Map;
import java.util.Random;
import java.util.TreeMap;

/** All promises: runs of calls, made by a fixed seed, on the program and on the naive model, answer by answer. */
public final class ModelTest {
    private static final int RUNS = Integer.getInteger("runs", 500);
    private static final int CALLS = Integer.getInteger("calls", 90);
    private static final Map<String, Method> REAL = methodsOf(LadderRelays.class);
    private static final Map<String, Method> NAIVE = methodsOf(Model.class);
    /** How often each method answered, or threw what: so that it can be seen that the runs reach everything. */
    private static final Map<String, Integer> REACHED = new TreeMap<>();

    private final Random random;
    private final LadderRelays real = new LadderRelays();
    private final Model naive = new Model();
    private final StringBuilder story = new StringBuilder();
    private boolean agreed = true;

    private ModelTest(long seed) {
        random = new Random(seed);
    }

    public static void main(String[] args) {
        long first = Long.getLong("seed", 20_000L);
        for (long seed = first; seed < first + RUNS; seed++) {
            new ModelTest(seed).play();
        }
        Check.due("methods of the face that were called", NAIVE.size(), 23);
        needReached("race told", "race untold", "race wheel", "race two rests", "race without rest", "cured", "cured by more",
            "leads nowhere", "holds", "idle branch", "settle throws.IllegalStateException",
            "draw throws.IllegalArgumentException", "draw all", "undo", "undo throws.IllegalStateException",
            "branch throws.IllegalStateException", "append throws.IllegalStateException");
        if (Boolean.getBoolean("tell")) {
            System.out.println(REACHED);
        }
        Check.end();
    }

    private static void needReached(String... names) {
        for (String name : names) {
            Check.due("reached: " + name, REACHED.getOrDefault(name, 0) > 0 ? 1 : 0, 1);
        }
    }

    private static Map<String, Method> methodsOf(Class<?> type) {
        Map<String, Method> methods = new HashMap<>();
        for (Method m : type.getDeclaredMethods()) {
            if (java.lang.reflect.Modifier.isPublic(m.getModifiers())) {
                methods.put(m.getName(), m);
            }
        }
        return methods;
    }

    private void play() {
        int relays = 1 + random.nextInt(6);
        boolean racy = random.nextInt(2) == 0;
        int slow = random.nextInt(3) == 0 ? 10 : 1 + random.nextInt(4);
        for (int i = 0; i < relays; i++) {
            call("add", random.nextInt(slow), random.nextInt(slow));
        }
        for (int i = 0; i < relays; i++) {
            int branches = racy ? 1 : random.nextInt(3);
            for (int k = 0; k < branches; k++) {
                if (racy) {
                    call("branch", i, 1, 16 << (i + 1) % relays | (random.nextInt(3) == 0 ? 16 << random.nextInt(relays) : 0));
                } else {
                    addBranch(relays);
                }
            }
        }
        if (racy) {
            call("press", 0);
            lookAtRaces();
        }
        for (int i = 0; i < CALLS && agreed; i++) {
            step(relays, racy);
            if (i % 6 == 0) {
                call("digest");
            }
            if (racy && i % 4 == 0) {
                lookAtRaces();
            }
        }
    }

    private void lookAtRaces() {
        for (int what = 0; what < 5; what++) {
            call("race", what);
        }
        for (int what = 0; what < 3; what++) {
            call("cure", what);
        }
    }

    private void step(int relays, boolean racy) {
        int kind = random.nextInt(100);
        if (kind < 12) {
            call("press", random.nextInt(4));
        } else if (kind < 20) {
            call("run", 1 + random.nextInt(4));
        } else if (kind < 24) {
            call(racy && random.nextInt(3) > 0 ? "reset" : "settle");
        } else if (kind < 28) {
            addBranch(relays);
        } else if (kind == 28) {
            call("strip", random.nextInt(relays));
        } else if (kind < 32) {
            call("delay", random.nextInt(relays), random.nextInt(10), random.nextInt(10));
        } else if (kind < 36) {
            for (int i = random.nextInt(8) == 0 ? 7 : 1; i > 0; i--) {
                call("undo");
            }
        } else if (kind < 41) {
            typeText(relays);
        } else if (kind < 44) {
            call("append", random.nextInt(3) == 0 ? 33 + random.nextInt(94) : "0123ab!+;=uv:".charAt(random.nextInt(13)));
        } else if (kind < 90) {
            look(relays);
        } else {
            wild();
        }
    }

    private void look(int relays) {
        switch (random.nextInt(9)) {
            case 0:
                call("count", random.nextInt(10));
                break;
            case 1:
                call("relay", random.nextInt(relays), random.nextInt(9));
                break;
            case 2:
                call("contacts", random.nextInt(relays), random.nextInt(4), random.nextInt(4));
                break;
            case 3:
                call("leads", random.nextInt(16), random.nextInt(2));
                break;
            case 4:
                call("race", random.nextInt(5));
                break;
            case 5:
                call("cure", random.nextInt(3));
                break;
            case 6:
                call("holding");
                break;
            case 7:
                call("idle", random.nextInt(relays));
                break;
            default:
                call("quietShare");
        }
    }

    private void addBranch(int relays) {
        int closing = 0;
        int opening = 0;
        int contacts = 1 + random.nextInt(3);
        for (int i = 0; i < contacts; i++) {
            int bit = 1 << random.nextInt(4 + relays);
            if (random.nextBoolean()) {
                closing |= bit;
            } else {
                opening |= bit;
            }
        }
        call("branch", random.nextInt(relays), closing & ~opening, opening);
    }

    /** Types a ladder, often with a fault in it, looks for the fault, and draws. */
    private void typeText(int relays) {
        StringBuilder text = new StringBuilder();
        int orders = 1 + random.nextInt(3);
        for (int i = 0; i < orders; i++) {
            text.append(i > 0 ? ";" : "").append(order(random.nextInt(4) == 0 ? 6 : relays));
        }
        if (random.nextInt(3) == 0) {
            text.setCharAt(random.nextInt(text.length()), "0a!+;=:u9".charAt(random.nextInt(9)));
        }
        if (random.nextInt(6) == 0) {
            text.setLength(random.nextInt(text.length()));
        }
        if (random.nextInt(4) > 0) {
            call("clearBuffer");
        }
        for (int i = 0; i < text.length(); i++) {
            call("append", text.charAt(i));
        }
        call("firstError");
        call("draw");
    }

    private String order(int relays) {
        if (random.nextInt(4) == 0) {
            return (random.nextBoolean() ? "u" : "v") + random.nextInt(relays) + ":" + random.nextInt(10);
        }
        StringBuilder rung = new StringBuilder().append(random.nextInt(relays)).append('=');
        int branches = random.nextInt(8) == 0 ? 5 : 1 + random.nextInt(3);
        for (int i = 0; i < branches; i++) {
            rung.append(i > 0 ? "+" : "");
            int contacts = random.nextInt(6) == 0 ? 9 : 1 + random.nextInt(3);
            for (int k = 0; k < contacts; k++) {
                int contact = random.nextInt(4 + relays);
                char name = (char) (contact < 4 ? 'a' + contact : '0' + contact - 4);
                if (rung.substring(rung.lastIndexOf(i > 0 ? "+" : "=")).indexOf(name) < 0) {
                    rung.append(random.nextBoolean() ? "!" : "").append(name);
                } else if (random.nextInt(12) == 0) {
                    rung.append('!');
                }
            }
            if (rung.charAt(rung.length() - 1) == '=' || rung.charAt(rung.length() - 1) == '+') {
                rung.append('d');
            }
        }
        return rung.toString();
    }

    private static final int[] WILD = {-1, 0, 1, 2, 3, 4, 5, 6, 7, 8, 9, 10, 15, 16, 33, 99, 100, 126, 127, 200, 1023,
        1024, Integer.MIN_VALUE, Integer.MAX_VALUE};

    /** Any method with any arguments. */
    private void wild() {
        String[] names = NAIVE.keySet().stream().sorted().toArray(String[]::new);
        String name = names[random.nextInt(names.length)];
        Object[] arguments = new Object[NAIVE.get(name).getParameterCount()];
        for (int i = 0; i < arguments.length; i++) {
            arguments[i] = WILD[random.nextInt(WILD.length)];
        }
        call(name, arguments);
    }

    private void call(String name, Object... arguments) {
        if (!agreed) {
            return;
        }
        Object[] numbers = new Object[arguments.length];
        for (int i = 0; i < numbers.length; i++) {
            numbers[i] = arguments[i] instanceof Character ? (int) (Character) arguments[i] : arguments[i];
        }
        String want = answer(NAIVE.get(name), naive, numbers);
        String got = answer(REAL.get(name), real, numbers);
        story.append(name).append(Arrays.toString(numbers)).append(' ').append(want).append('\n');
        note(name, numbers, want);
        agreed = got.equals(want);
        Check.due(agreed ? name : "after the calls\n" + story, got, want);
    }

    private static String answer(Method method, Object object, Object[] arguments) {
        try {
            return String.valueOf(method.invoke(object, arguments));
        } catch (InvocationTargetException e) {
            return "throws." + e.getCause().getClass().getSimpleName();
        } catch (IllegalAccessException e) {
            throw new AssertionError(e);
        }
    }

    private static void note(String name, Object[] arguments, String answer) {
        boolean none = answer.equals("-1");
        boolean threw = answer.startsWith("throws");
        reach(threw ? name + " " + answer : name);
        if (threw || arguments.length == 0 && !name.equals("holding") && !name.equals("draw")) {
            return;
        }
        if (name.equals("race")) {
            boolean first = arguments[0].equals(0);
            reach(arguments[0].equals(4) && !none ? "race told" : first && none ? "race untold" : "race");
            reach(arguments[0].equals(3) && answer.equals("1") ? "race wheel" : "race");
            reach(first && answer.equals("2") ? "race two rests" : first && answer.equals("0") ? "race without rest" : "race");
        } else if (name.equals("cure") && !none) {
            reach(arguments[0].equals(0) && !answer.equals("1") ? "cured by more" : "cured");
        } else if (name.equals("leads") && none) {
            reach("leads nowhere");
        } else if (name.equals("holding") && !answer.equals("0")) {
            reach("holds");
        } else if (name.equals("idle") && !none) {
            reach("idle branch");
        } else if (name.equals("draw") && !answer.equals("0")) {
            reach("draw all");
        }
    }

    private static void reach(String name) {
        REACHED.merge(name, 1, Integer::sum);
    }
}
