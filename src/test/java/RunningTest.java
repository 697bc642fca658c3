/** Promises 6 to 9: press, run, settle, reset; and the terms of ticks. */
public final class RunningTest {
    private static final Class<?> ARGUMENT = IllegalArgumentException.class;
    private static final Class<?> STATE = IllegalStateException.class;

    public static void main(String[] args) {
        press();
        runOfAHoldingRelay();
        countsOfContentRelays();
        runOfABuzzer();
        allDueChangeAtOnce();
        runRefuses();
        settle();
        settleWithin200Ticks();
        reset();
        Check.end();
    }

    private static LadderRelays holding() {
        LadderRelays x = new LadderRelays();
        x.add(2, 1);
        x.branch(0, 1, 0);
        x.branch(0, 16, 2);
        return x;
    }

    private static void press() {
        LadderRelays x = new LadderRelays();
        for (int i = 0; i < 3; i++) {
            x.add(0, 0);
        }
        x.branch(0, 1, 0);
        x.branch(1, 9, 0);
        x.branch(2, 1, 8);
        Check.due("press input 0", x.press(0), 2);
        Check.due("inputs", x.count(4), 1);
        Check.due("press input 3", x.press(3), 2);
        Check.due("inputs", x.count(4), 9);
        Check.due("called", x.count(2), 3);
        Check.due("press input 0 again", x.press(0), 0);
        Check.due("inputs", x.count(4), 8);
        Check.due("press input 2", x.press(2), 0);
        Check.due("press input 1", x.press(1), 0);
        Check.due("inputs", x.count(4), 14);
        Check.due("no tick", x.count(7), 0);
        int[] wrong = {-1, 4, Integer.MIN_VALUE, Integer.MAX_VALUE};
        for (int input : wrong) {
            Check.refuses(x, "press " + input, ARGUMENT, () -> x.press(input));
        }
    }

    private static void runOfAHoldingRelay() {
        LadderRelays x = holding();
        x.press(0);
        Check.due("two ticks of three", x.run(2), 0);
        Check.due("its count", x.relay(0, 2), 2);
        Check.due("the third", x.run(1), 1);
        Check.due("up", x.relay(0, 0), 1);
        Check.due("its count", x.relay(0, 2), 0);
        Check.due("it holds itself", x.press(0), 0);
        Check.due("the break", x.press(1), 1);
        Check.due("one tick of two", x.run(1), 0);
        Check.due("the second", x.run(1), 1);
        Check.due("down", x.relay(0, 0), 0);
        Check.due("its changes", x.relay(0, 7), 2);
        Check.due("ticks", x.count(7), 5);
        Check.due("ticks go by also when all is quiet", x.run(99), 0);
        Check.due("ticks", x.count(7), 104);
        Check.due("changes", x.count(8), 2);
    }

    private static void countsOfContentRelays() {
        LadderRelays x = holding();
        x.press(0);
        x.run(2);
        x.press(0);
        Check.due("content, but no tick yet", x.relay(0, 2), 2);
        x.press(0);
        Check.due("it goes on from there", x.run(1), 1);
        LadderRelays y = holding();
        y.press(0);
        y.run(2);
        y.press(0);
        y.run(1);
        Check.due("a tick makes it 0", y.relay(0, 2), 0);
        y.press(0);
        Check.due("from the start again", y.run(2), 0);
        Check.due("three in all", y.run(1), 1);
        LadderRelays z = new LadderRelays();
        z.add(9, 9);
        z.branch(0, 1, 0);
        z.press(0);
        Check.due("nine ticks do not do", z.run(9), 0);
        Check.due("its count", z.relay(0, 2), 9);
        Check.due("ten do", z.run(1), 1);
    }

    private static void runOfABuzzer() {
        LadderRelays x = new LadderRelays();
        x.add(0, 0);
        x.branch(0, 0, 16);
        Check.due("a change in each tick", x.run(99), 99);
        Check.due("up", x.relay(0, 0), 1);
        LadderRelays y = new LadderRelays();
        y.add(1, 2);
        y.branch(0, 0, 16);
        Check.due("up after 2, down after 3 more", y.run(4), 1);
        Check.due("the fifth", y.run(1), 1);
        Check.due("ten more", y.run(10), 4);
        Check.due("its changes", y.relay(0, 7), 6);
        Check.due("one saved state for each run", y.count(9), 5);
    }

    private static void allDueChangeAtOnce() {
        LadderRelays x = new LadderRelays();
        x.add(0, 0);
        x.add(0, 0);
        x.branch(0, 1, 32);
        x.branch(1, 1, 16);
        x.press(0);
        Check.due("both are due", x.run(1), 2);
        Check.due("both are up", x.count(1), 3);
        Check.due("and down", x.run(1), 2);
        Check.due("both are down", x.count(1), 0);
        // a chain: each sees the one ahead of it as it was ahead of the tick
        LadderRelays y = new LadderRelays();
        for (int i = 0; i < 3; i++) {
            y.add(0, 0);
        }
        y.branch(0, 1, 0);
        y.branch(1, 16, 0);
        y.branch(2, 32, 0);
        y.press(0);
        for (int i = 0; i < 3; i++) {
            Check.due("one after the other", y.run(1), 1);
        }
        Check.due("all are up", y.count(1), 7);
    }

    private static void runRefuses() {
        LadderRelays x = holding();
        int[] wrong = {0, -1, 100, Integer.MIN_VALUE, Integer.MAX_VALUE};
        for (int ticks : wrong) {
            Check.refuses(x, "run " + ticks, ARGUMENT, () -> x.run(ticks));
        }
        Check.due("run 1", x.run(1), 0);
        Check.due("run 99", x.run(99), 0);
    }

    private static void settle() {
        LadderRelays x = holding();
        Check.due("quiet", x.settle(), 0);
        Check.due("saved all the same", x.count(9), 4);
        x.press(0);
        Check.due("until it is up", x.settle(), 3);
        Check.due("up", x.count(1), 1);
        Check.due("ticks", x.count(7), 3);
        Check.due("changes", x.count(8), 1);
        Check.due("its changes", x.relay(0, 7), 1);
        Check.due("without relays", new LadderRelays().settle(), 0);
        LadderRelays buzzer = new LadderRelays();
        buzzer.add(0, 0);
        buzzer.branch(0, 0, 16);
        Check.refuses(buzzer, "settle of a buzzer", STATE, () -> buzzer.settle());
        Check.due("no tick went by", buzzer.count(7), 0);
        Check.due("nothing saved", buzzer.count(9), 2);
    }

    /** A ring of four relays that is quiet after 487 ticks. */
    static LadderRelays longRing() {
        LadderRelays x = new LadderRelays();
        x.add(8, 6);
        x.add(7, 9);
        x.add(9, 7);
        x.add(6, 5);
        x.branch(0, 32, 0);
        x.branch(1, 128, 0);
        x.branch(2, 0, 16);
        x.branch(3, 0, 64);
        return x;
    }

    private static void settleWithin200Ticks() {
        LadderRelays x = longRing();
        x.run(99);
        x.run(99);
        x.run(88);
        Check.refuses(x, "201 ticks", STATE, () -> x.settle());
        x.run(1);
        Check.due("200 ticks", x.settle(), 200);
        Check.due("all ticks", x.count(7), 487);
        Check.due("quiet", x.count(3), 0);
    }

    private static void reset() {
        LadderRelays x = holding();
        x.add(5, 5);
        x.branch(1, 16, 0);
        x.press(0);
        x.run(5);
        Check.due("its count", x.relay(1, 2), 2);
        Check.due("one was up", x.reset(), 1);
        Check.due("none is up", x.count(1), 0);
        Check.due("the count", x.relay(1, 2), 0);
        Check.due("inputs stay", x.count(4), 1);
        Check.due("changes stay", x.count(8), 1);
        Check.due("changes of the relay stay", x.relay(0, 7), 1);
        Check.due("ticks stay", x.count(7), 5);
        Check.due("branches stay", x.count(5), 3);
        Check.due("none was up", x.reset(), 0);
        Check.due("saved", x.count(9), 6);
        Check.due("undo", x.undo(), 5);
        x.undo();
        Check.due("up again", x.count(1), 1);
        Check.due("its count again", x.relay(1, 2), 2);
    }
}
