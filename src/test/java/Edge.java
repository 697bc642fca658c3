import java.lang.reflect.InvocationTargetException;
import java.lang.reflect.Method;
import java.util.Arrays;

/** What the tests of the document's sentences share. */
final class Edge {
    static final Class<?> INDEX = IndexOutOfBoundsException.class;
    static final Class<?> ARGUMENT = IllegalArgumentException.class;
    static final Class<?> STATE = IllegalStateException.class;
    static final int NONE = -1;

    interface Maker {
        LadderRelays make();
    }

    interface Call {
        long on(LadderRelays x);
    }

    interface CallWith {
        long on(LadderRelays x, int argument);
    }

    private Edge() {
    }

    /** Does a test for a sentence of the document, which is told with each answer that is not as due. */
    static void test(int promise, String sentence, Runnable body) {
        Check.under("");
        Sentences.quote(promise, sentence);
        Check.under("promise " + promise + ", \"" + sentence + "\": ");
        body.run();
        Check.under("");
    }

    /**
     * A ladder of relays, each told by the digits of its times to pull and to drop, and by its branches as in the
     * input text, with a space ahead of each: "21 a 0!b".
     */
    static LadderRelays ladder(String... relays) {
        LadderRelays x = new LadderRelays();
        for (String relay : relays) {
            x.add(relay.charAt(0) - '0', relay.charAt(1) - '0');
        }
        for (int i = 0; i < relays.length; i++) {
            String[] parts = relays[i].split(" ");
            for (int k = 1; k < parts.length; k++) {
                x.branch(i, mask(parts[k], false), mask(parts[k], true));
            }
        }
        return x;
    }

    private static int mask(String branch, boolean opening) {
        int mask = 0;
        for (int i = 0; i < branch.length(); i++) {
            char name = branch.charAt(i);
            boolean opens = i > 0 && branch.charAt(i - 1) == '!';
            if (name != '!' && opens == opening) {
                mask |= name >= 'a' ? 1 << (name - 'a') : 16 << (name - '0');
            }
        }
        return mask;
    }

    /** A ladder as above, with inputs that are on. */
    static LadderRelays pressed(int inputs, String... relays) {
        LadderRelays x = ladder(relays);
        press(x, inputs);
        return x;
    }

    static void press(LadderRelays x, int inputs) {
        for (int k = 0; k < 4; k++) {
            if ((inputs >> k & 1) == 1) {
                x.press(k);
            }
        }
    }

    /** So many relays without branches and times. */
    static LadderRelays bare(int relays) {
        LadderRelays x = new LadderRelays();
        for (int i = 0; i < relays; i++) {
            x.add(0, 0);
        }
        return x;
    }

    static LadderRelays typed(LadderRelays x, String text) {
        Check.type(x, text);
        return x;
    }

    static void due(String what, long got, long want) {
        Check.due(what, got, want);
    }

    /** What an object, of the program or of the naive model, answers to the call of this name. */
    static String answer(Object object, String name, int... arguments) {
        try {
            for (Method method : object.getClass().getDeclaredMethods()) {
                if (method.getName().equals(name) && method.getParameterCount() == arguments.length) {
                    return String.valueOf(method.invoke(object, Arrays.stream(arguments).boxed().toArray()));
                }
            }
            throw new AssertionError("there is no " + name);
        } catch (InvocationTargetException e) {
            return "throws." + e.getCause().getClass().getSimpleName();
        } catch (IllegalAccessException e) {
            throw new AssertionError(e);
        }
    }

    /** The call must throw just this exception, and leave all as it is on an object without the call. */
    static void refused(String what, Class<?> exception, Maker maker, Call call) {
        LadderRelays x = maker.make();
        Check.due(what, Check.outcome(() -> call.on(x)), "throws." + exception.getSimpleName());
        Check.due(what + ": nothing has changed", Told.usingUp(x), Told.usingUp(maker.make()));
    }

    /** The call must answer, and leave all as it is on an object without the call. */
    static void changesNothing(String what, long want, Maker maker, Call call) {
        LadderRelays x = maker.make();
        Check.due(what, Check.outcome(() -> call.on(x)), Long.toString(want));
        Check.due(what + ": nothing has changed", Told.usingUp(x), Told.usingUp(maker.make()));
    }

    /** The least and the greatest argument are taken, those beyond them refused. */
    static void range(String what, Class<?> exception, int least, int greatest, Maker maker, CallWith call) {
        for (int taken : new int[] {least, greatest}) {
            LadderRelays x = maker.make();
            boolean refused = Check.outcome(() -> call.on(x, taken)).startsWith("throws");
            Check.due(what + " " + taken + " is refused", refused ? 1 : 0, 0);
        }
        for (int beyond : new int[] {least - 1, greatest + 1, Integer.MIN_VALUE, Integer.MAX_VALUE}) {
            refused(what + " " + beyond, exception, maker, x -> call.on(x, beyond));
        }
    }

    /** The call must save the state from before it, and undo bring back all but the buffer. */
    static void undoable(String what, Maker maker, Call call) {
        LadderRelays x = maker.make();
        LadderRelays like = maker.make();
        int saved = x.count(9);
        call.on(x);
        Check.due(what + ": saved states then", x.count(9), Math.min(6, saved + 1));
        Check.due(what + ": undo", x.undo(), Math.min(5, saved));
        Check.due(what + ": as before it", Told.ofLadder(x), Told.ofLadder(like));
        int left = Math.min(5, saved);
        while (left > 0) {
            left--;
            Check.due(what + ": undo again", x.undo(), left);
            like.undo();
            Check.due(what + ": as before that", Told.ofLadder(x), Told.ofLadder(like));
        }
    }
}
