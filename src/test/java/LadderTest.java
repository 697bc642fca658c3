/** Promises 1 to 5: a new object, add, branch, strip, delay. */
public final class LadderTest {
    private static final Class<?> INDEX = IndexOutOfBoundsException.class;
    private static final Class<?> ARGUMENT = IllegalArgumentException.class;
    private static final Class<?> STATE = IllegalStateException.class;

    public static void main(String[] args) {
        newObject();
        add();
        addRefuses();
        branch();
        branchRefuses();
        strip();
        delay();
        delayRefuses();
        Check.end();
    }

    private static void newObject() {
        LadderRelays x = new LadderRelays();
        Check.due("NONE", LadderRelays.NONE, -1);
        for (int what = 0; what <= 9; what++) {
            Check.due("new: count " + what, x.count(what), 0);
        }
        Check.due("new: empty buffer", x.clearBuffer(), 0);
        Check.due("new: quiet", x.settle(), 0);
    }

    private static void add() {
        LadderRelays x = new LadderRelays();
        for (int i = 0; i < 6; i++) {
            Check.due("add " + i, x.add(i, 9 - i), i);
            Check.due("its time to pull", x.relay(i, 3), i);
            Check.due("its time to drop", x.relay(i, 4), 9 - i);
            Check.due("its branches", x.relay(i, 5), 0);
            Check.due("down", x.relay(i, 0), 0);
            Check.due("not called", x.relay(i, 1), 0);
            Check.due("count", x.relay(i, 2), 0);
            Check.due("changes", x.relay(i, 7), 0);
            Check.due("relays", x.count(0), i + 1);
        }
        Check.due("saved by add", x.count(9), 6);
        Check.refuses(x, "a seventh relay", STATE, () -> x.add(0, 0));
        Check.refuses(x, "a seventh relay of a wrong time", ARGUMENT, () -> x.add(0, 10));
        LadderRelays y = new LadderRelays();
        Check.due("the longest times", y.add(9, 9), 0);
        Check.due("the shortest times", y.add(0, 0), 1);
    }

    private static void addRefuses() {
        LadderRelays x = new LadderRelays();
        int[] wrong = {-1, 10, Integer.MIN_VALUE, Integer.MAX_VALUE};
        for (int time : wrong) {
            Check.refuses(x, "add pull " + time, ARGUMENT, () -> x.add(time, 0));
            Check.refuses(x, "add drop " + time, ARGUMENT, () -> x.add(0, time));
        }
        Check.due("nothing saved", x.count(9), 0);
    }

    private static void branch() {
        LadderRelays x = new LadderRelays();
        x.add(0, 0);
        x.add(0, 0);
        Check.due("branch 1", x.branch(0, 1 | 16, 2 | 32), 1);
        Check.due("branch 2", x.branch(0, 0, 15), 2);
        Check.due("branch 3", x.branch(0, 63, 0), 3);
        Check.due("branch 4, like 3", x.branch(0, 63, 0), 4);
        Check.due("branch of the other relay", x.branch(1, 32, 0), 1);
        Check.due("closing", x.contacts(0, 0, 0), 17);
        Check.due("opening", x.contacts(0, 0, 1), 34);
        Check.due("closing of 2", x.contacts(0, 1, 0), 0);
        Check.due("opening of 2", x.contacts(0, 1, 1), 15);
        Check.due("closing of 4", x.contacts(0, 3, 0), 63);
        Check.due("closing of relay 1", x.contacts(1, 0, 0), 32);
        Check.due("branches", x.count(5), 5);
        Check.due("saved", x.count(9), 6);
        Check.refuses(x, "a fifth branch", STATE, () -> x.branch(0, 1, 0));
        Check.refuses(x, "a fifth branch without contacts", ARGUMENT, () -> x.branch(0, 0, 0));
        Check.refuses(x, "no relay 2, no contacts", INDEX, () -> x.branch(2, 0, 0));
        LadderRelays full = new LadderRelays();
        for (int i = 0; i < 6; i++) {
            full.add(0, 0);
        }
        Check.due("all closing", full.branch(5, 1023, 0), 1);
        Check.due("all opening", full.branch(5, 0, 1023), 2);
    }

    private static void branchRefuses() {
        LadderRelays x = new LadderRelays();
        Check.refuses(x, "no relay at all", INDEX, () -> x.branch(0, 1, 0));
        x.add(0, 0);
        int[] wrongRelays = {-1, 1, 6, Integer.MIN_VALUE, Integer.MAX_VALUE};
        for (int relay : wrongRelays) {
            Check.refuses(x, "branch of relay " + relay, INDEX, () -> x.branch(relay, -1, 0));
        }
        int[] wrongMasks = {-1, 1024, 32, 64, 128, 256, 512, 1 | 32, Integer.MIN_VALUE, Integer.MAX_VALUE};
        for (int mask : wrongMasks) {
            Check.refuses(x, "closing " + mask, ARGUMENT, () -> x.branch(0, mask, 0));
            Check.refuses(x, "opening " + mask, ARGUMENT, () -> x.branch(0, 0, mask));
        }
        Check.refuses(x, "no contacts", ARGUMENT, () -> x.branch(0, 0, 0));
        Check.refuses(x, "a common bit", ARGUMENT, () -> x.branch(0, 3, 2));
        Check.refuses(x, "its own relay both ways", ARGUMENT, () -> x.branch(0, 16, 16));
        Check.due("no branch", x.count(5), 0);
    }

    private static void strip() {
        LadderRelays x = new LadderRelays();
        Check.refuses(x, "strip without relays", INDEX, () -> x.strip(0));
        x.add(0, 0);
        x.add(0, 0);
        x.branch(0, 1, 0);
        x.branch(0, 2, 0);
        x.branch(1, 4, 0);
        Check.due("strip", x.strip(0), 2);
        Check.due("no branches", x.relay(0, 5), 0);
        Check.due("the other one's", x.relay(1, 5), 1);
        Check.due("contacts", x.count(6), 1);
        Check.due("strip again", x.strip(0), 0);
        Check.due("saved also if it changes nothing", x.count(9), 6);
        Check.due("a branch afterwards", x.branch(0, 8, 0), 1);
        Check.due("its contacts", x.contacts(0, 0, 0), 8);
        Check.refuses(x, "strip(2)", INDEX, () -> x.strip(2));
        Check.refuses(x, "strip(-1)", INDEX, () -> x.strip(-1));
    }

    private static void delay() {
        LadderRelays x = new LadderRelays();
        x.add(3, 4);
        x.add(5, 6);
        Check.due("delay answers the time to pull before", x.delay(1, 9, 0), 5);
        Check.due("pull", x.relay(1, 3), 9);
        Check.due("drop", x.relay(1, 4), 0);
        Check.due("the other's pull", x.relay(0, 3), 3);
        Check.due("delay again", x.delay(1, 9, 0), 9);
        Check.due("saved", x.count(9), 4);
        // a count that is beyond a time made shorter: due in the next tick
        LadderRelays y = new LadderRelays();
        y.add(9, 0);
        y.branch(0, 1, 0);
        y.press(0);
        y.run(6);
        Check.due("ticks until due", y.relay(0, 8), 4);
        y.delay(0, 2, 0);
        Check.due("its count", y.relay(0, 2), 6);
        Check.due("at least 1", y.relay(0, 8), 1);
        Check.due("changes in the next tick", y.run(1), 1);
    }

    private static void delayRefuses() {
        LadderRelays x = new LadderRelays();
        Check.refuses(x, "delay without relays", INDEX, () -> x.delay(0, 1, 1));
        x.add(3, 4);
        Check.refuses(x, "no relay ahead of a wrong time", INDEX, () -> x.delay(1, 10, 0));
        Check.refuses(x, "relay -1", INDEX, () -> x.delay(-1, 0, 0));
        int[] wrong = {-1, 10, Integer.MIN_VALUE, Integer.MAX_VALUE};
        for (int time : wrong) {
            Check.refuses(x, "delay pull " + time, ARGUMENT, () -> x.delay(0, time, 0));
            Check.refuses(x, "delay drop " + time, ARGUMENT, () -> x.delay(0, 0, time));
        }
        Check.due("pull stays", x.relay(0, 3), 3);
    }
}
