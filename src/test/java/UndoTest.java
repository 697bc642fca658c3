/** Promise 14: undo. */
public final class UndoTest {
    public static void main(String[] args) {
        eachUndoableCall();
        sixAtMost();
        allIsRestored();
        callsThatSaveNothing();
        Check.end();
    }

    private static LadderRelays started() {
        LadderRelays x = new LadderRelays();
        x.add(1, 1);
        x.add(2, 2);
        x.branch(0, 1, 0);
        x.press(0);
        x.run(1);
        return x;
    }

    private interface Step {
        void take(LadderRelays x);
    }

    private static void eachUndoableCall() {
        Step[] steps = {x -> x.add(9, 9), x -> x.branch(1, 2, 16), x -> x.strip(0), x -> x.strip(1),
            x -> x.delay(0, 5, 6), x -> x.delay(0, 1, 1), x -> x.press(2), x -> x.press(0), x -> x.run(99),
            x -> x.settle(), x -> x.reset(), x -> draws(x, "0=b+c;u1:7;v1:8", 3), x -> draws(x, "4=a", 0)};
        for (int i = 0; i < steps.length; i++) {
            LadderRelays x = started();
            String before = Told.ofLadder(x);
            steps[i].take(x);
            Check.due("saved by step " + i, x.count(9), 6);
            Check.due("undo of step " + i, x.undo(), 5);
            Check.due("as before step " + i, Told.ofLadder(x), before);
            Check.due("saved then", x.count(9), 5);
        }
    }

    private static void draws(LadderRelays x, String text, int orders) {
        Check.type(x, text);
        Check.due("orders of " + text, x.draw(), orders);
    }

    private static void sixAtMost() {
        LadderRelays x = new LadderRelays();
        Check.refuses(x, "undo of a new object", IllegalStateException.class, () -> x.undo());
        x.add(0, 0);
        String[] states = new String[20];
        for (int i = 0; i < 20; i++) {
            states[i] = Told.ofLadder(x);
            x.delay(0, i % 10, i / 10);
            Check.due("saved", x.count(9), Math.min(6, i + 2));
        }
        for (int i = 19; i >= 14; i--) {
            Check.due("undo", x.undo(), i - 14);
            Check.due("the state ahead of delay " + i, Told.ofLadder(x), states[i]);
        }
        Check.refuses(x, "undo beyond the oldest", IllegalStateException.class, () -> x.undo());
        x.press(1);
        Check.due("one is saved again", x.undo(), 0);
        Check.due("as before", Told.ofLadder(x), states[14]);
    }

    private static void allIsRestored() {
        LadderRelays x = new LadderRelays();
        x.add(0, 0);
        x.branch(0, 0, 16);
        x.run(7);
        x.append('0');
        x.run(99);
        x.append('=');
        Check.due("undo", x.undo(), 3);
        Check.due("ticks", x.count(7), 7);
        Check.due("changes", x.count(8), 7);
        Check.due("changes of the relay", x.relay(0, 7), 7);
        Check.due("up", x.relay(0, 0), 1);
        Check.due("the buffer stays", x.clearBuffer(), 2);
        x.undo();
        x.undo();
        Check.due("no branch", x.count(5), 0);
        Check.due("undo of the first call", x.undo(), 0);
        Check.due("no relay", x.count(0), 0);
        Check.due("the number is free again", x.add(4, 5), 0);
        Check.due("without branches", x.relay(0, 5), 0);
        Check.due("without changes", x.relay(0, 7), 0);
        Check.due("with its own times", x.relay(0, 3), 4);
    }

    private static void callsThatSaveNothing() {
        LadderRelays x = started();
        x.undo();
        x.append('0');
        x.firstError();
        x.clearBuffer();
        Told.ofLadder(x);
        x.digest();
        Check.due("saved", x.count(9), 4);
        // an undo is not undone
        int ticks = x.count(7);
        x.run(3);
        x.undo();
        Check.due("ticks", x.count(7), ticks);
        x.undo();
        Check.due("the press is undone", x.count(4), 0);
    }
}
