/** Promises 6 to 9: the boundaries that the document names, sentence by sentence. */
final class RunningEdges {
    private RunningEdges() {
    }

    static void all() {
        press();
        counts();
        dues();
        content();
        run();
        settle();
        settleWithin200();
        reset();
    }

    private static final String[] SIX_CALLED = {"00 a", "00 a", "00 a", "00 a", "00 a", "00 a"};
    private static final String[] SIX_BUZZERS = {"00 !0", "00 !1", "00 !2", "00 !3", "00 !4", "00 !5"};

    private static void press() {
        Edge.test(6, "Switches an input on, or off, if it is on.", () -> {
            LadderRelays x = Edge.ladder("00 a");
            int[][] steps = {{0, 1}, {3, 9}, {0, 8}, {1, 10}, {2, 14}, {0, 15}, {3, 7}, {3, 15}, {2, 11}};
            for (int[] step : steps) {
                x.press(step[0]);
                Edge.due("inputs after press of " + step[0], x.count(4), step[1]);
            }
        });
        Edge.test(6, "`input`: 0 to 3", () -> {
            Edge.range("input", Edge.ARGUMENT, 0, 3, () -> Edge.ladder("00 a"), LadderRelays::press);
            Edge.range("input without relays", Edge.ARGUMENT, 0, 3, LadderRelays::new, LadderRelays::press);
        });
        Edge.test(6, "Returns how many relays are not content then.", () -> {
            Edge.due("without relays", new LadderRelays().press(0), 0);
            LadderRelays x = Edge.ladder(SIX_CALLED);
            Edge.due("an input that no contact is of", x.press(1), 0);
            Edge.due("all six", x.press(0), 6);
            Edge.due("off again", x.press(0), 0);
            x.press(0);
            x.run(1);
            Edge.due("all six are up, and not called", x.press(0), 6);
            LadderRelays y = Edge.ladder("00 a", "00 a b", "00 !a");
            y.run(1);
            Edge.due("two to pull, one to drop", y.press(0), 3);
            Edge.due("no other with b", y.press(1), 3);
            Edge.due("one with b alone", y.press(0), 1);
        });
        Edge.test(6, "Throws `IllegalArgumentException` if input is out of range", () -> {
            Edge.refused("-1", Edge.ARGUMENT, () -> Edge.pressed(15, "00 a"), x -> x.press(-1));
            Edge.refused("4", Edge.ARGUMENT, () -> Edge.pressed(15, "00 a"), x -> x.press(4));
            Edge.refused("32", Edge.ARGUMENT, () -> Edge.pressed(15, "00 a"), x -> x.press(32));
        });
        Edge.test(6, "Undoable.", () -> {
            Edge.undoable("on", () -> Edge.ladder("11 a"), x -> x.press(0));
            Edge.undoable("off", () -> Edge.pressed(1, "11 a"), x -> x.press(0));
            Edge.undoable("without relays", LadderRelays::new, x -> x.press(3));
        });
    }

    private static void counts() {
        Edge.test(7, "When a tick goes by, it is asked for each relay, by how all is ahead of the tick: if it is content, "
            + "its count becomes 0", () -> {
                LadderRelays x = Edge.pressed(1, "99 a");
                x.run(9);
                x.press(0);
                Edge.due("content, with a count, until a tick goes by", x.relay(0, 2), 9);
                Edge.due("one tick", x.run(1), 0);
                Edge.due("its count", x.relay(0, 2), 0);
                // a chain: each sees the one ahead of it as it was ahead of the tick
                LadderRelays y = Edge.pressed(1, "00 a", "00 0", "00 1", "00 2", "00 3", "00 4");
                for (int up = 1; up <= 6; up++) {
                    Edge.due("one more", y.run(1), 1);
                    Edge.due("who is up", y.count(1), (1 << up) - 1);
                }
                // the other way round, too: a later relay is seen as it was
                LadderRelays z = Edge.pressed(1, "00 1", "00 2", "00 a");
                z.run(1);
                Edge.due("the last alone", z.count(1), 4);
                z.run(1);
                Edge.due("the last two", z.count(1), 6);
            });
        Edge.test(7, "otherwise its count becomes 1 more, at most 10.", () -> {
            LadderRelays x = Edge.pressed(1, "99 a");
            for (int count = 0; count <= 9; count++) {
                Edge.due("its count", x.relay(0, 2), count);
                Edge.due("up", x.relay(0, 0), 0);
                x.run(1);
            }
            Edge.due("at 10 it changes, and has the count 0", x.relay(0, 2), 0);
            Edge.due("up", x.relay(0, 0), 1);
            // it may be due again and again while the other one, a buzzer, is first: its count stays at 10
            LadderRelays y = Edge.pressed(1, "00 !0", "90 a");
            Edge.due("states with counts of at most 10", y.race(4), 10 + 2 + 4);
        });
    }

    private static void dues() {
        Edge.test(7, "It is due then if its count is greater than its time to pull, if it is down, or its time to drop, "
            + "if it is up.", () -> {
                for (int time = 0; time <= 9; time++) {
                    LadderRelays x = Edge.pressed(1, time + "" + (time + 5) % 10 + " a");
                    isDueAfter("pull " + time, x, time);
                    x.press(0);
                    isDueAfter("drop " + (time + 5) % 10, x, (time + 5) % 10);
                }
            });
        Edge.test(7, "All relays that are due change (up or down), at once, and have the count 0.", () -> {
            LadderRelays x = Edge.ladder("22 a", "22 a", "22 a", "22 !a", "22 !a", "22 !a");
            x.run(3);
            Edge.due("three are up", x.count(1), 56);
            x.press(0);
            Edge.due("two ticks", x.run(2), 0);
            Edge.due("in the third all six change", x.run(1), 6);
            Edge.due("the other three are up", x.count(1), 7);
            for (int relay = 0; relay < 6; relay++) {
                Edge.due("count of " + relay, x.relay(relay, 2), 0);
            }
            // each lets the other one drop, and both change all the same
            LadderRelays y = Edge.pressed(1, "00 a!1", "00 a!0");
            Edge.due("both pull", y.run(1), 2);
            Edge.due("both drop", y.run(1), 2);
            // one that is due, and one that is not yet
            LadderRelays z = Edge.pressed(1, "10 a", "20 a");
            Edge.due("one of two", z.run(2), 1);
            Edge.due("its count", z.relay(0, 2), 0);
            Edge.due("the other's count", z.relay(1, 2), 2);
        });
    }

    /** No change in so many ticks, and one in the next. */
    private static void isDueAfter(String what, LadderRelays x, int time) {
        for (int tick = 1; tick <= time; tick++) {
            Edge.due(what + ": changes in tick " + tick, x.run(1), 0);
            Edge.due(what + ": its count", x.relay(0, 2), tick);
        }
        Edge.due(what + ": changes in the next tick", x.run(1), 1);
    }

    private static void content() {
        Edge.test(7, "It is content if it is up and called, or down and not called.", () -> {
            LadderRelays x = Edge.ladder("00 a");
            Edge.due("down and not called", x.count(3), 0);
            x.press(0);
            Edge.due("down and called", x.count(3), 1);
            x.run(1);
            Edge.due("up and called", x.count(3), 0);
            x.press(0);
            Edge.due("up and not called", x.count(3), 1);
        });
        Edge.test(8, "All is quiet if all relays are content.", () -> {
            Edge.due("no relays", new LadderRelays().settle(), 0);
            Edge.due("six of six are content", Edge.ladder(SIX_CALLED).settle(), 0);
            Edge.due("five of six", Edge.ladder("00", "00", "00", "00", "00", "00 !a").settle(), 1);
            Edge.due("none of six", Edge.pressed(1, SIX_CALLED).settle(), 1);
        });
    }

    private static void run() {
        Edge.test(7, "Lets ticks go by.", () -> {
            LadderRelays x = new LadderRelays();
            x.run(99);
            Edge.due("ticks without relays", x.count(7), 99);
            LadderRelays y = Edge.ladder("00");
            y.run(1);
            Edge.due("ticks when all is quiet", y.count(7), 1);
            y.run(99);
            Edge.due("ticks in all", y.count(7), 100);
        });
        Edge.test(7, "`ticks`: 1 to 99", () -> {
            Edge.range("ticks", Edge.ARGUMENT, 1, 99, () -> Edge.ladder("11 !0"), LadderRelays::run);
            LadderRelays x = Edge.ladder("00 !0");
            x.run(1);
            Edge.due("after the least", x.count(7), 1);
            x.run(99);
            Edge.due("after the greatest", x.count(7), 100);
        });
        Edge.test(7, "Returns how many changes of relays there are in them.", () -> {
            Edge.due("none, without relays", new LadderRelays().run(99), 0);
            Edge.due("the least", Edge.ladder("00").run(1), 0);
            LadderRelays x = Edge.ladder(SIX_BUZZERS);
            Edge.due("six in a tick", x.run(1), 6);
            Edge.due("the greatest", x.run(99), 6 * 99);
            Edge.due("not those before them", x.run(2), 12);
            Edge.due("all of them", x.count(8), 6 * 102);
        });
        Edge.test(7, "Throws `IllegalArgumentException` if ticks is out of range", () -> {
            Edge.refused("0", Edge.ARGUMENT, () -> Edge.ladder(SIX_BUZZERS), x -> x.run(0));
            Edge.refused("100", Edge.ARGUMENT, () -> Edge.ladder(SIX_BUZZERS), x -> x.run(100));
            Edge.refused("-1", Edge.ARGUMENT, () -> Edge.ladder(SIX_BUZZERS), x -> x.run(-1));
        });
        Edge.test(7, "Undoable, as one call.", () -> {
            Edge.undoable("99 ticks", () -> Edge.ladder(SIX_BUZZERS), x -> x.run(99));
            Edge.undoable("a tick of a quiet ladder", () -> Edge.ladder("00"), x -> x.run(1));
            Edge.undoable("a tick without relays", LadderRelays::new, x -> x.run(1));
        });
    }

    private static void settle() {
        Edge.test(8, "Lets ticks go by until all is quiet.", () -> {
            LadderRelays x = Edge.pressed(1, "00 a", "90 0", "22 1!0");
            x.settle();
            Edge.due("not content", x.count(3), 0);
            Edge.due("who is up", x.count(1), 3);
            Edge.due("ticks", x.count(7), 11);
            Edge.due("changes", x.count(8), 2);
        });
        Edge.test(8, "Returns how many went by (0 if all is quiet).", () -> {
            LadderRelays x = Edge.pressed(1, "99 a");
            x.run(9);
            Edge.due("the last tick of ten", x.settle(), 1);
            Edge.due("quiet", x.settle(), 0);
            Edge.due("no tick went by", x.count(7), 10);
            x.press(0);
            x.run(4);
            x.press(0);
            Edge.due("quiet, with a count", x.settle(), 0);
            Edge.due("no tick made the count 0", x.relay(0, 2), 4);
            Edge.due("ten ticks", Edge.pressed(1, "99 a").settle(), 10);
        });
        Edge.test(8, "Undoable.", () -> {
            Edge.undoable("ten ticks", () -> Edge.pressed(1, "99 a"), x -> x.settle());
            Edge.undoable("no tick", () -> Edge.ladder("99 a"), x -> x.settle());
            Edge.undoable("without relays", LadderRelays::new, x -> x.settle());
        });
    }

    /** The long ring, so many ticks ahead of its rest. */
    static LadderRelays ringAhead(int ticks) {
        LadderRelays x = RunningTest.longRing();
        for (int gone = 487 - ticks; gone > 0; gone -= 99) {
            x.run(Math.min(99, gone));
        }
        return x;
    }

    private static void settleWithin200() {
        Edge.test(8, "Throws `IllegalStateException` if it is not so within 200 ticks", () -> {
            Edge.due("199 ticks", ringAhead(199).settle(), 199);
            LadderRelays x = ringAhead(200);
            Edge.due("200 ticks", x.settle(), 200);
            Edge.due("quiet", x.count(3), 0);
            Edge.due("ticks in all", x.count(7), 487);
            Edge.refused("201 ticks", Edge.STATE, () -> ringAhead(201), y -> y.settle());
            Edge.refused("never", Edge.STATE, () -> Edge.ladder(SIX_BUZZERS), y -> y.settle());
        });
    }

    private static void reset() {
        Edge.test(9, "Lets all relays drop, with counts of 0 (inputs stay; it counts as no change of relays).", () -> {
            LadderRelays x = Edge.pressed(15, "00 a", "99 b", "00 c", "99 d", "00 !a", "00");
            x.run(9);
            Edge.due("two are up", x.count(1), 5);
            Edge.due("a count", x.relay(1, 2), 9);
            x.reset();
            Edge.due("none is up", x.count(1), 0);
            for (int relay = 0; relay < 6; relay++) {
                Edge.due("count of " + relay, x.relay(relay, 2), 0);
            }
            Edge.due("inputs", x.count(4), 15);
            Edge.due("changes", x.count(8), 2);
            Edge.due("changes of relay 0", x.relay(0, 7), 1);
            Edge.due("ticks", x.count(7), 9);
            Edge.due("they are called as before", x.count(2), 15);
            Edge.due("from the start again", x.settle(), 10);
        });
        Edge.test(9, "Returns how many were up.", () -> {
            Edge.due("without relays", new LadderRelays().reset(), 0);
            LadderRelays x = Edge.pressed(1, SIX_CALLED);
            Edge.due("none of six", x.reset(), 0);
            x.run(1);
            Edge.due("six of six", x.reset(), 6);
            Edge.due("none again", x.reset(), 0);
        });
        Edge.test(9, "Undoable.", () -> {
            Edge.undoable("of relays with counts", () -> ringAhead(480), x -> x.reset());
            Edge.undoable("of none that is up", () -> Edge.ladder("99 a"), x -> x.reset());
            Edge.undoable("without relays", LadderRelays::new, x -> x.reset());
        });
    }
}
