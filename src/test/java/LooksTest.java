/** Promises 15 to 17: relay, contacts, count. */
public final class LooksTest {
    private static final Class<?> INDEX = IndexOutOfBoundsException.class;
    private static final Class<?> ARGUMENT = IllegalArgumentException.class;

    public static void main(String[] args) {
        relay();
        ownContacts();
        ticksUntilDue();
        contacts();
        count();
        refusals();
        Check.end();
    }

    private static LadderRelays three() {
        LadderRelays x = new LadderRelays();
        x.add(0, 3);
        x.add(4, 2);
        x.add(7, 0);
        x.branch(0, 1, 0);
        x.branch(1, 16, 2);
        x.branch(1, 32, 4);
        x.branch(1, 0, 8 | 64);
        x.branch(2, 16, 64);
        return x;
    }

    private static void properties(LadderRelays x, int relay, int... want) {
        for (int what = 0; what < want.length; what++) {
            Check.due("relay " + relay + ", what " + what, x.relay(relay, what), want[what]);
        }
    }

    private static void relay() {
        LadderRelays x = three();
        properties(x, 0, 0, 0, 0, 0, 3, 1, 0, 0, 0);
        properties(x, 1, 0, 1, 0, 4, 2, 3, 1, 0, 5);
        properties(x, 2, 0, 0, 0, 7, 0, 1, 0, 0, 0);
        x.press(0);
        properties(x, 0, 0, 1, 0, 0, 3, 1, 0, 0, 1);
        x.run(2);
        properties(x, 0, 1, 1, 0, 0, 3, 1, 0, 1, 0);
        properties(x, 1, 0, 1, 2, 4, 2, 3, 1, 0, 3);
        properties(x, 2, 0, 1, 1, 7, 0, 1, 0, 0, 7);
        x.press(0);
        properties(x, 0, 1, 0, 0, 0, 3, 1, 0, 1, 4);
        x.run(3);
        // relay 1 pulled in the fifth tick in all; relay 0 drops in the next one
        properties(x, 0, 1, 0, 3, 0, 3, 1, 0, 1, 1);
        properties(x, 1, 1, 1, 0, 4, 2, 3, 1, 1, 0);
        x.run(1);
        properties(x, 0, 0, 0, 0, 0, 3, 1, 0, 2, 0);
    }

    private static void ownContacts() {
        LadderRelays x = new LadderRelays();
        x.add(0, 0);
        x.add(0, 0);
        x.branch(0, 32, 16);
        x.branch(1, 16, 32);
        Check.due("not an opening one, nor another relay's", x.relay(0, 6) + x.relay(1, 6), 0);
        x.branch(1, 1, 0);
        x.branch(1, 33, 0);
        Check.due("in its third branch", x.relay(1, 6), 1);
        x.strip(0);
        x.branch(0, 16, 0);
        Check.due("in its first branch", x.relay(0, 6), 1);
        x.strip(0);
        Check.due("stripped", x.relay(0, 6), 0);
    }

    private static void ticksUntilDue() {
        LadderRelays x = new LadderRelays();
        x.add(9, 9);
        x.branch(0, 1, 0);
        x.press(0);
        for (int i = 0; i < 10; i++) {
            Check.due("its count", x.relay(0, 2), i);
            Check.due("ticks until it pulls", x.relay(0, 8), 10 - i);
            x.run(1);
        }
        Check.due("content", x.relay(0, 8), 0);
        x.press(0);
        Check.due("ticks until it drops", x.relay(0, 8), 10);
        x.run(4);
        x.delay(0, 0, 4);
        Check.due("with a shorter time", x.relay(0, 8), 1);
        x.delay(0, 0, 3);
        Check.due("with a time that is over", x.relay(0, 8), 1);
        x.press(0);
        Check.due("content with a count", x.relay(0, 8), 0);
        Check.due("its count", x.relay(0, 2), 4);
    }

    private static void contacts() {
        LadderRelays x = three();
        int[][] want = {{16, 2, 0, 1}, {32, 4, 0, 1}, {0, 72, 1, 0}};
        for (int b = 0; b < 3; b++) {
            for (int what = 0; what < 4; what++) {
                Check.due("contacts 1 " + b + " " + what, x.contacts(1, b, what), want[b][what]);
            }
        }
        x.press(1);
        x.press(2);
        x.press(3);
        Check.due("two do not lead", x.contacts(1, 0, 3), 2);
        Check.due("two do not lead", x.contacts(1, 1, 3), 2);
        Check.due("one does not lead", x.contacts(1, 2, 3), 1);
        Check.due("it does not lead", x.contacts(1, 2, 2), 0);
        x.press(0);
        x.run(1);
        Check.due("relay 0 is up", x.contacts(1, 0, 3), 1);
        x.press(1);
        Check.due("both lead", x.contacts(1, 0, 3), 0);
        Check.due("the branch leads", x.contacts(1, 0, 2), 1);
    }

    private static void counts(LadderRelays x, int... want) {
        for (int what = 0; what < want.length; what++) {
            Check.due("count " + what, x.count(what), want[what]);
        }
    }

    private static void count() {
        LadderRelays x = three();
        counts(x, 3, 0, 2, 1, 0, 5, 9, 0, 0, 6);
        x.press(0);
        counts(x, 3, 0, 3, 2, 1, 5, 9, 0, 0, 6);
        x.run(1);
        counts(x, 3, 1, 7, 2, 1, 5, 9, 1, 1, 6);
        x.press(3);
        counts(x, 3, 1, 7, 2, 9, 5, 9, 1, 1, 6);
        x.strip(2);
        counts(x, 3, 1, 3, 1, 9, 4, 7, 1, 1, 6);
        for (int i = 0; i < 6; i++) {
            x.undo();
        }
        Check.due("saved", x.count(9), 0);
        x.press(0);
        Check.due("saved", x.count(9), 1);
    }

    private static void refusals() {
        LadderRelays none = new LadderRelays();
        Check.refuses(none, "relay without relays", INDEX, () -> none.relay(0, 0));
        Check.refuses(none, "contacts without relays", INDEX, () -> none.contacts(0, 0, 0));
        LadderRelays x = three();
        int[] relays = {-1, 3, 6, Integer.MIN_VALUE, Integer.MAX_VALUE};
        for (int relay : relays) {
            Check.refuses(x, "relay " + relay, INDEX, () -> x.relay(relay, 9));
            Check.refuses(x, "contacts of relay " + relay, INDEX, () -> x.contacts(relay, 0, 4));
        }
        int[] branches = {-1, 3, 4, Integer.MIN_VALUE, Integer.MAX_VALUE};
        for (int branch : branches) {
            Check.refuses(x, "contacts of branch " + branch, INDEX, () -> x.contacts(1, branch, 4));
        }
        Check.refuses(x, "a branch of the next relay", INDEX, () -> x.contacts(0, 1, 0));
        int[] far = {Integer.MIN_VALUE, -1, 10, Integer.MAX_VALUE};
        for (int what : far) {
            Check.refuses(x, "relay, what " + what, ARGUMENT, () -> x.relay(0, what));
            Check.refuses(x, "contacts, what " + what, ARGUMENT, () -> x.contacts(0, 0, what));
            Check.refuses(x, "count, what " + what, ARGUMENT, () -> x.count(what));
        }
        Check.refuses(x, "relay, what 9", ARGUMENT, () -> x.relay(0, 9));
        Check.refuses(x, "contacts, what 4", ARGUMENT, () -> x.contacts(0, 0, 4));
    }
}
