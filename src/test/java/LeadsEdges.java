/** Promises 18 and 21: the boundaries that the document names, sentence by sentence. */
final class LeadsEdges {
    private static final String[] BY_INPUTS = {"00 a", "10 b", "20 c", "90 d"};
    private static final String[] SIX_CALLED = {"00 a", "00 a", "00 a", "00 a", "00 a", "00 a"};

    private LeadsEdges() {
    }

    static void all() {
        inputs();
        leads();
        leadsWithin200();
        leadsRefuses();
        holding();
        holdingWithin200();
    }

    private static void inputs() {
        Edge.test(18, "`inputs`: 0 to 15, the inputs that are on then, as a mask", () -> {
            Edge.range("inputs", Edge.ARGUMENT, 0, 15, () -> Edge.ladder(BY_INPUTS), (x, inputs) -> x.leads(inputs, 0));
            LadderRelays x = Edge.pressed(9, BY_INPUTS);
            for (int inputs = 0; inputs <= 15; inputs++) {
                Edge.due("up with " + inputs, x.leads(inputs, 0), inputs);
            }
            Edge.due("the inputs that are on stay", x.count(4), 9);
        });
        Edge.test(18, "Tells what the inputs lead to.", () -> {
            Edge.due("who is up, without relays", new LadderRelays().leads(15, 0), 0);
            Edge.due("ticks, without relays", new LadderRelays().leads(15, 1), 0);
            Edge.changesNothing("who is up", 15, () -> Edge.ladder(BY_INPUTS), x -> x.leads(15, 0));
            Edge.changesNothing("ticks", 10, () -> Edge.ladder(BY_INPUTS), x -> x.leads(15, 1));
        });
    }

    private static void leads() {
        Edge.test(18, "`what`: 0: the relays that are up when all is quiet, as a mask", () -> {
            LadderRelays x = Edge.ladder(SIX_CALLED);
            Edge.due("none of six", x.leads(0, 0), 0);
            Edge.due("six of six", x.leads(1, 0), 63);
            LadderRelays y = Edge.ladder("00 a", "00", "00", "00", "00", "00 a");
            Edge.due("the first and the last", y.leads(1, 0), 33);
        });
        Edge.test(18, "1: the ticks until then", () -> {
            LadderRelays x = Edge.ladder("99 a", "00");
            Edge.due("quiet", x.leads(0, 1), 0);
            Edge.due("ten", x.leads(1, 1), 10);
            Edge.due("a chain of six", Edge.ladder("90 a", "90 0", "90 1", "90 2", "90 3", "90 4").leads(1, 1), 60);
        });
        Edge.test(18, "Returns the number, from the present state on, with these inputs from now on, by ticks as they go by",
            () -> {
                LadderRelays x = Edge.pressed(1, "99 a");
                x.run(9);
                Edge.due("its count goes on", x.leads(1, 1), 1);
                Edge.due("quiet without inputs, with a count", x.leads(0, 1), 0);
                x.run(1);
                Edge.due("up, it drops", x.leads(0, 1), 10);
                Edge.due("and is down then", x.leads(0, 0), 0);
                // by ticks both change at once, again and again, though there are rests if one is first
                LadderRelays y = Edge.ladder("00 a!1", "00 a!0");
                Edge.due("never quiet by ticks", y.leads(1, 0), Edge.NONE);
                y.press(0);
                Edge.due("two rests if one is first", y.race(0), 2);
            });
    }

    private static void leadsWithin200() {
        Edge.test(18, "NONE if it is not so within 200 ticks.", () -> {
            LadderRelays x = RunningEdges.ringAhead(201);
            Edge.due("ticks, 201", x.leads(0, 1), Edge.NONE);
            Edge.due("who is up, 201", x.leads(0, 0), Edge.NONE);
            x.run(1);
            Edge.due("ticks, 200", x.leads(0, 1), 200);
            int up = x.leads(0, 0);
            x.run(1);
            Edge.due("ticks, 199", x.leads(0, 1), 199);
            Edge.due("who is up, 199", x.leads(0, 0), up);
            x.settle();
            Edge.due("who is up when all is quiet", x.count(1), up);
            LadderRelays buzzer = Edge.ladder("00 !0!a");
            Edge.due("never", buzzer.leads(0, 0), Edge.NONE);
            Edge.due("never, ticks", buzzer.leads(14, 1), Edge.NONE);
            Edge.due("with an input", buzzer.leads(1, 1), 0);
        });
    }

    private static void leadsRefuses() {
        Edge.test(18, "Throws `IllegalArgumentException` if an argument is out of range", () -> {
            Edge.range("what", Edge.ARGUMENT, 0, 1, () -> Edge.pressed(3, BY_INPUTS), (x, what) -> x.leads(0, what));
            Edge.refused("inputs -1", Edge.ARGUMENT, () -> Edge.pressed(3, BY_INPUTS), x -> x.leads(-1, 0));
            Edge.refused("inputs 16", Edge.ARGUMENT, () -> Edge.pressed(3, BY_INPUTS), x -> x.leads(16, 1));
            Edge.refused("both", Edge.ARGUMENT, () -> Edge.pressed(3, BY_INPUTS), x -> x.leads(16, 2));
            Edge.refused("without relays", Edge.ARGUMENT, LadderRelays::new, x -> x.leads(0, 2));
        });
    }

    private static void holding() {
        Edge.test(21, "Tells which relays hold.", () -> {
            Edge.due("without relays", new LadderRelays().holding(), 0);
            Edge.changesNothing("a look at it", 2, LeadsEdges::oneHolds, x -> x.holding());
        });
        Edge.test(21, "Returns the relays, as a mask, that are up now, and would be up when all is quiet with all inputs off "
            + "from now on", () -> {
                Edge.due("up now, but not then", upNow("00 a").holding(), 0);
                Edge.due("not now, but then", upNow("00 !a").holding(), 0);
                Edge.due("now and then", upNow("00 a 0").holding(), 1);
                Edge.due("neither", upNow("00").holding(), 0);
                Edge.due("six of six", upNow("00 a 0", "00 a 1", "00 a 2", "00 a 3", "00 a 4", "00 a 5").holding(), 63);
                Edge.due("none of six", upNow(SIX_CALLED).holding(), 0);
                // it drops, as relay 1 is up for a while, and pulls again
                Edge.due("now and then, not between", upNow("00 a !1", "05 a").holding(), 1);
                // all inputs are off then, not those alone that are on
                Edge.due("called without inputs alone", upNow("00 !a!b!c!d a").holding(), 1);
                LadderRelays x = Edge.pressed(15, "00 abcd", "00 0 a");
                x.settle();
                Edge.due("quiet with inputs", x.count(3), 0);
                Edge.due("the second drops after the first", x.holding(), 0);
            });
    }

    private static LadderRelays oneHolds() {
        return upNow("00 a", "00 a 1", "00 !a");
    }

    /** A ladder with input 0 on, quiet. */
    private static LadderRelays upNow(String... relays) {
        LadderRelays x = Edge.pressed(1, relays);
        x.settle();
        return x;
    }

    private static void holdingWithin200() {
        Edge.test(21, "0 if it is not quiet within 200 ticks.", () -> {
            LadderRelays x = RunningTest.longRing();
            x.add(0, 0);
            x.branch(4, 1, 0);
            x.branch(4, 256, 0);
            x.press(0);
            x.run(99);
            x.run(99);
            x.run(88);
            Edge.due("it holds itself", x.relay(4, 0) + x.relay(4, 6), 2);
            Edge.due("201 ticks", x.holding(), 0);
            x.run(1);
            Edge.due("200 ticks", x.holding(), x.count(1) & x.leads(0, 0));
            Edge.due("200 ticks, the one that holds itself", x.holding() & 16, 16);
            x.run(1);
            Edge.due("199 ticks, the one that holds itself", x.holding() & 16, 16);
            LadderRelays y = upNow("00 a 0", "00 !a!1");
            Edge.due("never, though one holds itself", y.holding(), 0);
        });
    }
}
