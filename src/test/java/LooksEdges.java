/** Promises 15 to 17: the boundaries that the document names, sentence by sentence. */
final class LooksEdges {
    private static final String FULL = " abcd012345 abcd012345 !a!b!c!d!0!1!2!3!4!5 ab!c!d01!2!34!5";
    private static final String[] SIX_CALLED = {"00 a", "00 a", "00 a", "00 a", "00 a", "00 a"};

    private LooksEdges() {
    }

    static void all() {
        relayRefuses();
        eachProperty();
        upAndCalled();
        counts();
        timesAndBranches();
        ownContacts();
        changes();
        ticksUntilDue();
        contactsRefuse();
        contacts();
        eachOfBranches();
        countRefuses();
        eachCount();
        countsOfRelays();
        countsOfBranches();
        countsSoFar();
    }

    private static void relayRefuses() {
        Edge.test(15, "`relay`: its number", () -> {
            Edge.range("relay of 1", Edge.INDEX, 0, 0, () -> Edge.bare(1), (x, relay) -> x.relay(relay, 0));
            Edge.range("relay of 6", Edge.INDEX, 0, 5, () -> Edge.bare(6), (x, relay) -> x.relay(relay, 8));
        });
        Edge.test(15, "Throws `IndexOutOfBoundsException` if there is no such relay", () -> {
            for (int what = 0; what <= 8; what++) {
                int property = what;
                Edge.refused("none at all, what " + what, Edge.INDEX, LadderRelays::new, x -> x.relay(0, property));
                Edge.refused("one beyond, what " + what, Edge.INDEX, () -> Edge.bare(2), x -> x.relay(2, property));
            }
        });
        Edge.test(15, "Throws `IllegalArgumentException` if what is not 0 to 8", () ->
            Edge.range("what", Edge.ARGUMENT, 0, 8, () -> Edge.bare(1), (x, what) -> x.relay(0, what)));
        Edge.test(15, "If several exceptions apply, the one that is named first in the throws clause is thrown.", () -> {
            Edge.refused("no relay, what 9", Edge.INDEX, () -> Edge.bare(1), x -> x.relay(1, 9));
            Edge.refused("no relay, what -1", Edge.INDEX, LadderRelays::new, x -> x.relay(-1, -1));
        });
        Edge.test(15, "Returns a property of a relay.", () -> {
            LadderRelays x = Edge.pressed(1, "12 a", "34 b !1", "56");
            x.run(4);
            properties(x, 0, 1, 1, 0, 1, 2, 1, 0, 1, 0);
            properties(x, 1, 1, 0, 0, 3, 4, 2, 0, 1, 5);
            properties(x, 2, 0, 0, 0, 5, 6, 0, 0, 0, 0);
        });
    }

    private static void eachProperty() {
        Edge.test(15, "Returns the property.", () -> {
            LadderRelays x = Edge.ladder("38 a a b 0!d", "00 0 !d");
            properties(x, 0, 0, 0, 0, 3, 8, 4, 1, 0, 0);
            properties(x, 1, 0, 1, 0, 0, 0, 2, 0, 0, 1);
            x.press(3);
            for (int round = 0; round < 2; round++) {
                x.press(0);
                Edge.due("round " + round + ": ticks until it is up, and the other one", x.settle(), 5);
                x.press(0);
                x.settle();
            }
            x.press(0);
            x.settle();
            x.press(0);
            x.run(2);
            // up, not called, at the count 2, changed five times, and due in seven ticks
            properties(x, 0, 1, 0, 2, 3, 8, 4, 1, 5, 7);
            properties(x, 1, 1, 1, 0, 0, 0, 2, 0, 5, 0);
        });
    }

    private static void properties(LadderRelays x, int relay, int... want) {
        for (int what = 0; what < want.length; what++) {
            Edge.due("relay " + relay + ", what " + what, x.relay(relay, what), want[what]);
        }
    }

    private static void upAndCalled() {
        Edge.test(15, "`what`: 0: 1 if it is up, otherwise 0", () -> {
            LadderRelays x = Edge.pressed(1, "50 a", "00 a");
            x.run(5);
            Edge.due("due in the next tick, but down", x.relay(0, 0), 0);
            Edge.due("the other", x.relay(1, 0), 1);
            x.run(1);
            Edge.due("up", x.relay(0, 0), 1);
            x.press(0);
            Edge.due("not called, but up", x.relay(0, 0), 1);
            x.run(1);
            Edge.due("down", x.relay(0, 0), 0);
        });
        Edge.test(15, "1: 1 if it is called, otherwise 0", () -> {
            LadderRelays x = Edge.ladder("50 a b c d");
            Edge.due("no branch leads", x.relay(0, 1), 0);
            x.press(3);
            Edge.due("the last one leads", x.relay(0, 1), 1);
            Edge.due("called, but down", x.relay(0, 0), 0);
            Edge.press(x, 7);
            Edge.due("all lead", x.relay(0, 1), 1);
            Edge.press(x, 15);
            Edge.due("none again", x.relay(0, 1), 0);
        });
    }

    private static void counts() {
        Edge.test(15, "2: its count", () -> {
            LadderRelays x = Edge.pressed(1, "99 a", "99 a", "99 a", "99 a", "99 a", "99 a");
            Edge.due("the least", x.relay(5, 2), 0);
            x.run(9);
            for (int relay = 0; relay < 6; relay++) {
                Edge.due("the greatest, of " + relay, x.relay(relay, 2), 9);
            }
            x.run(1);
            Edge.due("it has changed", x.relay(5, 2), 0);
            x.run(1);
            Edge.due("up and called", x.relay(5, 2), 0);
        });
    }

    private static void timesAndBranches() {
        Edge.test(15, "3: its time to pull", () -> {
            LadderRelays x = Edge.ladder("05", "95");
            Edge.due("the least", x.relay(0, 3), 0);
            Edge.due("the greatest", x.relay(1, 3), 9);
        });
        Edge.test(15, "4: its time to drop", () -> {
            LadderRelays x = Edge.ladder("50", "59");
            Edge.due("the least", x.relay(0, 4), 0);
            Edge.due("the greatest", x.relay(1, 4), 9);
        });
        Edge.test(15, "5: its branches, how many", () -> {
            LadderRelays x = Edge.ladder("00", "00 a b c d", "00 a");
            Edge.due("the least", x.relay(0, 5), 0);
            Edge.due("the greatest", x.relay(1, 5), 4);
            Edge.due("one", x.relay(2, 5), 1);
        });
    }

    private static void ownContacts() {
        Edge.test(15, "6: 1 if one of its branches has its own closing contact, otherwise 0", () -> {
            Edge.due("no branch", Edge.bare(1).relay(0, 6), 0);
            Edge.due("its own opening one", Edge.ladder("00 !0").relay(0, 6), 0);
            Edge.due("its own closing one", Edge.ladder("00 0").relay(0, 6), 1);
            Edge.due("in the last of four", Edge.ladder("00 a b !0 !a0").relay(0, 6), 1);
            LadderRelays x = Edge.ladder("00 1", "00 0", "00 abcd01!2345", "00 a b c abcd012345", "00 5", "00 5");
            int[] want = {0, 0, 0, 1, 0, 1};
            for (int relay = 0; relay < 6; relay++) {
                Edge.due("relay " + relay + " of six", x.relay(relay, 6), want[relay]);
            }
        });
    }

    private static void changes() {
        Edge.test(15, "7: how often it changed so far", () -> {
            LadderRelays x = Edge.ladder("00 !0", "00");
            Edge.due("not yet", x.relay(0, 7), 0);
            x.run(1);
            Edge.due("it pulled", x.relay(0, 7), 1);
            x.run(1);
            Edge.due("and dropped", x.relay(0, 7), 2);
            x.run(99);
            x.run(99);
            Edge.due("in 200 ticks", x.relay(0, 7), 200);
            Edge.due("the other", x.relay(1, 7), 0);
            x.run(1);
            x.reset();
            Edge.due("a reset is no change", x.relay(0, 7), 201);
        });
    }

    private static void ticksUntilDue() {
        Edge.test(15, "8: the ticks until it would be due, if it goes on to be called, or not called, as now, at least 1", () -> {
            LadderRelays x = Edge.pressed(1, "99 a");
            for (int count = 0; count <= 9; count++) {
                Edge.due("at the count " + count, x.relay(0, 8), 10 - count);
                x.run(1);
            }
            Edge.due("the time of 0", Edge.pressed(1, "09 a").relay(0, 8), 1);
            LadderRelays y = Edge.pressed(1, "99 a");
            y.run(9);
            int[][] steps = {{9, 1}, {8, 1}, {0, 1}};
            for (int[] step : steps) {
                y.delay(0, step[0], 9);
                Edge.due("at the count 9, time " + step[0], y.relay(0, 8), step[1]);
            }
            LadderRelays z = Edge.pressed(1, "04 a");
            z.run(1);
            z.press(0);
            z.run(2);
            Edge.due("until it drops", z.relay(0, 8), 3);
            z.delay(0, 0, 2);
            Edge.due("until it drops, with a shorter time", z.relay(0, 8), 1);
            // it is asked as if nothing else changed: the buzzer would shut it off
            Edge.due("as now", Edge.pressed(1, "00 a", "90 !0").relay(1, 8), 10);
        });
        Edge.test(15, "0 if it is content", () -> {
            LadderRelays x = Edge.ladder("99 a");
            Edge.due("down and not called", x.relay(0, 8), 0);
            x.press(0);
            x.run(5);
            x.press(0);
            Edge.due("with a count", x.relay(0, 8), 0);
            x.press(0);
            x.settle();
            Edge.due("up and called", x.relay(0, 8), 0);
            Edge.due("without branches", Edge.bare(1).relay(0, 8), 0);
        });
    }

    private static void contactsRefuse() {
        Edge.test(16, "`relay`: its relay", () ->
            Edge.range("relay", Edge.INDEX, 0, 5, () -> Edge.ladder(SIX_CALLED), (x, relay) -> x.contacts(relay, 0, 0)));
        Edge.test(16, "`branch`: its number in the relay, from 0", () -> {
            String[] rungs = {"00 a", "00 a b", "00 a b c", "00 a b c d"};
            for (int last = 0; last <= 3; last++) {
                String rung = rungs[last];
                Edge.range("branch of " + (last + 1), Edge.INDEX, 0, last, () -> Edge.ladder("00 a b c d", rung, "00 a b c d"),
                    (x, branch) -> x.contacts(1, branch, 3));
                Edge.due("the last of " + (last + 1), Edge.ladder(rung).contacts(0, last, 0), 1 << last);
            }
        });
        Edge.test(16, "Throws `IndexOutOfBoundsException` if there is no such relay or branch", () -> {
            Edge.refused("no relay at all", Edge.INDEX, LadderRelays::new, x -> x.contacts(0, 0, 0));
            Edge.refused("no branch at all", Edge.INDEX, () -> Edge.ladder("00", "00 a"), x -> x.contacts(0, 0, 0));
            Edge.refused("no such relay", Edge.INDEX, () -> Edge.ladder("00 a"), x -> x.contacts(1, 0, 0));
            Edge.refused("no such branch", Edge.INDEX, () -> Edge.ladder("00 a"), x -> x.contacts(0, 1, 0));
            Edge.refused("neither", Edge.INDEX, () -> Edge.ladder("00 a"), x -> x.contacts(-1, -1, 0));
            Edge.refused("a branch that was stripped", Edge.INDEX, () -> {
                LadderRelays x = Edge.ladder("00 a b");
                x.strip(0);
                x.branch(0, 1, 0);
                return x;
            }, x -> x.contacts(0, 1, 0));
        });
        Edge.test(16, "Throws `IllegalArgumentException` if what is not 0 to 3", () ->
            Edge.range("what", Edge.ARGUMENT, 0, 3, () -> Edge.ladder("00 a"), (x, what) -> x.contacts(0, 0, what)));
        Edge.test(16, "If several exceptions apply, the one that is named first in the throws clause is thrown.", () -> {
            Edge.refused("no relay, what 4", Edge.INDEX, () -> Edge.ladder("00 a"), x -> x.contacts(1, 0, 4));
            Edge.refused("no branch, what 4", Edge.INDEX, () -> Edge.ladder("00 a"), x -> x.contacts(0, 1, 4));
            Edge.refused("no branch, what -1", Edge.INDEX, () -> Edge.ladder("00 a"), x -> x.contacts(0, -1, -1));
        });
    }

    private static LadderRelays fullAndBare() {
        return Edge.ladder("00" + FULL, "00", "00", "00", "00", "00 d");
    }

    private static void contacts() {
        Edge.test(16, "Returns something of a branch.", () -> {
            LadderRelays x = Edge.ladder("00 a!b", "00 c", "00 !d0", "00");
            int[][] want = {{1, 2, 0, 1}, {4, 0, 0, 1}, {16, 8, 0, 1}};
            for (int relay = 0; relay < 3; relay++) {
                for (int what = 0; what < 4; what++) {
                    Edge.due("relay " + relay + ", what " + what, x.contacts(relay, 0, what), want[relay][what]);
                }
            }
        });
        Edge.test(16, "`what`: 0: its closing contacts, 1: its opening ones, as masks", () -> {
            LadderRelays x = fullAndBare();
            int[][] want = {{1023, 0}, {1023, 0}, {0, 1023}, {1 + 2 + 16 + 32 + 256, 4 + 8 + 64 + 128 + 512}};
            for (int branch = 0; branch < 4; branch++) {
                Edge.due("closing of " + branch, x.contacts(0, branch, 0), want[branch][0]);
                Edge.due("opening of " + branch, x.contacts(0, branch, 1), want[branch][1]);
            }
            Edge.due("of the last relay", x.contacts(5, 0, 0), 8);
            Edge.due("of the last relay, opening", x.contacts(5, 0, 1), 0);
        });
        Edge.test(16, "2: 1 if it leads, otherwise 0", () -> {
            LadderRelays x = fullAndBare();
            Edge.due("all closing, all off", x.contacts(0, 0, 2), 0);
            Edge.due("all opening, all off", x.contacts(0, 2, 2), 1);
            x.press(3);
            Edge.due("all opening, one on", x.contacts(0, 2, 2), 0);
            Edge.due("one of one", x.contacts(5, 0, 2), 1);
        });
        Edge.test(16, "3: how many of its contacts do not lead", () -> {
            LadderRelays x = fullAndBare();
            Edge.due("the greatest", x.contacts(0, 0, 3), 10);
            Edge.due("the least", x.contacts(0, 2, 3), 0);
            Edge.due("closing ones alone", x.contacts(0, 3, 3), 5);
            Edge.due("one of one", x.contacts(5, 0, 3), 1);
            Edge.press(x, 15);
            Edge.due("four are on, of ten closing", x.contacts(0, 0, 3), 6);
            Edge.due("four are on, of ten opening", x.contacts(0, 2, 3), 4);
            Edge.due("four are on, of both kinds", x.contacts(0, 3, 3), 5);
            Edge.due("none of one", x.contacts(5, 0, 3), 0);
        });
    }

    private static void eachOfBranches() {
        Edge.test(16, "Returns the number.", () -> {
            LadderRelays x = Edge.pressed(3, "00 a0!b!c", "00 abd01", "00 ab!d!2");
            int[][] want = {{17, 6, 0, 2}, {59, 0, 0, 3}, {3, 72, 1, 0}};
            for (int relay = 0; relay < 3; relay++) {
                for (int what = 0; what < 4; what++) {
                    Edge.due("branch of " + relay + ", what " + what, x.contacts(relay, 0, what), want[relay][what]);
                }
            }
        });
    }

    private static void eachCount() {
        Edge.test(17, "Returns the number.", () -> {
            LadderRelays x = Edge.pressed(13, "00 ac", "00 d b a!0", "92 c", "00 !a", "00");
            x.run(4);
            x.undo();
            x.run(7);
            x.undo();
            x.run(3);
            x.undo();
            // relay 1 sees relay 0 down, and up, but is called by d as well
            x.run(4);
            int[] want = {5, 3, 7, 1, 13, 6, 8, 4, 2, 6};
            for (int what = 0; what <= 9; what++) {
                Edge.due("what " + what, x.count(what), want[what]);
            }
        });
    }

    private static void countRefuses() {
        Edge.test(17, "Throws `IllegalArgumentException` if what is not 0 to 9", () -> {
            Edge.range("what", Edge.ARGUMENT, 0, 9, () -> Edge.ladder(SIX_CALLED), LadderRelays::count);
            Edge.range("what, without relays", Edge.ARGUMENT, 0, 9, LadderRelays::new, LadderRelays::count);
        });
        Edge.test(17, "Returns a number.", () -> {
            LadderRelays x = Edge.pressed(5, "00 a", "00 !a", "90 a !b!c");
            x.run(2);
            int[] want = {3, 1, 5, 1, 5, 4, 5, 2, 1, 6};
            for (int what = 0; what <= 9; what++) {
                Edge.due("what " + what, x.count(what), want[what]);
            }
        });
    }

    private static void countsOfRelays() {
        Edge.test(17, "`what`: 0: relays", () -> {
            for (int relays = 0; relays <= 6; relays++) {
                Edge.due("relays", Edge.bare(relays).count(0), relays);
            }
        });
        Edge.test(17, "1: those that are up, as a mask", () -> {
            LadderRelays x = Edge.pressed(1, SIX_CALLED);
            Edge.due("none of six", x.count(1), 0);
            x.run(1);
            Edge.due("six of six", x.count(1), 63);
            LadderRelays y = Edge.pressed(1, "00 a", "00", "00", "00", "00", "00 a");
            y.run(1);
            Edge.due("the first and the last", y.count(1), 33);
        });
        Edge.test(17, "2: those that are called, as a mask", () -> {
            LadderRelays x = Edge.ladder(SIX_CALLED);
            Edge.due("none of six", x.count(2), 0);
            x.press(0);
            Edge.due("six of six", x.count(2), 63);
            Edge.due("the first and the last", Edge.ladder("00 !a", "00", "00", "00", "00", "00 !a").count(2), 33);
        });
        Edge.test(17, "3: those that are not content, how many", () -> {
            LadderRelays x = Edge.pressed(1, SIX_CALLED);
            Edge.due("six, that are down", x.count(3), 6);
            x.run(1);
            Edge.due("none", x.count(3), 0);
            x.press(0);
            Edge.due("six, that are up", x.count(3), 6);
            Edge.due("without relays", new LadderRelays().count(3), 0);
        });
        Edge.test(17, "4: the inputs that are on, as a mask", () -> {
            for (int inputs = 0; inputs <= 15; inputs++) {
                LadderRelays x = new LadderRelays();
                Edge.press(x, inputs);
                Edge.due("inputs", x.count(4), inputs);
            }
        });
    }

    private static void countsOfBranches() {
        String full = "00" + FULL;
        Edge.test(17, "5: branches", () -> {
            Edge.due("the least", Edge.bare(6).count(5), 0);
            Edge.due("the greatest", Edge.ladder(full, full, full, full, full, full).count(5), 24);
        });
        Edge.test(17, "6: contacts", () -> {
            LadderRelays x = Edge.ladder(full, full, full, full, full, full);
            Edge.due("the least", Edge.bare(6).count(6), 0);
            Edge.due("one", Edge.ladder("00 !0").count(6), 1);
            Edge.due("the greatest", x.count(6), 240);
            x.strip(5);
            Edge.due("stripped", x.count(6), 200);
        });
    }

    private static void countsSoFar() {
        Edge.test(17, "7: ticks so far", () -> {
            LadderRelays x = Edge.pressed(1, "00 a");
            Edge.due("none", x.count(7), 0);
            x.settle();
            Edge.due("one by settle", x.count(7), 1);
            x.settle();
            Edge.due("none by settle", x.count(7), 1);
            x.run(99);
            x.run(99);
            x.run(99);
            Edge.due("many", x.count(7), 298);
            x.reset();
            Edge.due("a reset is no tick", x.count(7), 298);
            x.undo();
            x.undo();
            Edge.due("two calls are undone", x.count(7), 199);
        });
        Edge.test(17, "8: changes of relays so far", () -> {
            LadderRelays x = Edge.pressed(1, "00 a", "00 a", "00 !0");
            Edge.due("none", x.count(8), 0);
            x.run(1);
            Edge.due("three at once", x.count(8), 3);
            x.run(99);
            Edge.due("one more", x.count(8), 4);
            x.reset();
            Edge.due("a reset is no change", x.count(8), 4);
            x.undo();
            x.undo();
            Edge.due("undone", x.count(8), 3);
        });
        Edge.test(17, "9: saved states", () -> {
            LadderRelays x = new LadderRelays();
            Edge.due("none", x.count(9), 0);
            for (int calls = 1; calls <= 20; calls++) {
                x.run(1);
                Edge.due("after " + calls, x.count(9), Math.min(6, calls));
            }
        });
    }
}
