/** Promises 19 and 20, and the terms of races: the boundaries that the document names, sentence by sentence. */
final class RaceEdges {
    private RaceEdges() {
    }

    static void all() {
        outcomes();
        ways();
        rests();
        wheels();
        states();
        raceRefuses();
        races();
        cureRefuses();
        cures();
        orderOfCures();
        cureUpTo9();
        noCures();
        cureUpTo300();
    }

    private static final String[] SIX_CALLED = {"00 a", "00 a", "00 a", "00 a", "00 a", "00 a"};
    /** With input 0 on each shuts the other one off. */
    private static final String[] TWO = {"00 a!1", "00 a!0"};
    private static final String[] STATES_300 = {"00 !2", "00 a !4", "00 !1", "00 !a3 2", "00 !a5", "00 !a"};
    private static final String[] STATES_301 = {"57 !1", "88 a!2", "59 a0", "01 !0!3"};

    private static void raced(String name, LadderRelays x, int... want) {
        for (int what = 0; what < want.length; what++) {
            Edge.due(name + ": race " + what, x.race(what), want[what]);
        }
    }

    private static void cured(String name, LadderRelays x, int amount, int relay, int kind) {
        Edge.due(name + ": cure 0", x.cure(0), amount);
        Edge.due(name + ": cure 1", x.cure(1), relay);
        Edge.due(name + ": cure 2", x.cure(2), kind);
    }

    private static void notCured(String name, LadderRelays x) {
        cured(name, x, Edge.NONE, Edge.NONE, Edge.NONE);
    }

    private static void outcomes() {
        Edge.test(19, "When several relays are due in a tick, one may be first.", () -> {
            raced("one is due: it pulls", Edge.pressed(1, "00 a"), 1, 1, 1, 0, 2);
            raced("two are due: both, or either", Edge.pressed(1, "00 a", "00 a"), 1, 3, 3, 0, 4);
            raced("three are due", Edge.pressed(1, "00 a", "00 a", "00 a"), 1, 7, 7, 0, 8);
            raced("six are due", Edge.pressed(1, SIX_CALLED), 1, 63, 63, 0, 64);
            raced("two are called, one is due", Edge.pressed(1, "00 a", "10 a"), 1, 3, 3, 0, 3);
        });
    }

    private static void ways() {
        Edge.test(19, "The ways from a state (who is up, and all counts; the inputs stay) are: if all is quiet, none", () -> {
            raced("without relays", new LadderRelays(), 1, 0, 0, 0, 1);
            raced("six that are quiet", Edge.ladder(SIX_CALLED), 1, 0, 0, 0, 1);
            LadderRelays x = Edge.pressed(1, "99 a");
            x.run(9);
            x.press(0);
            raced("quiet, with a count", x, 1, 0, 0, 0, 1);
            x.press(0);
            raced("with the count of 9", x, 1, 1, 1, 0, 2);
        });
        Edge.test(19, "otherwise a tick goes by, with one outcome in which all relays that are due change", () -> {
            raced("none is due yet: ten counts, and up", Edge.pressed(1, "90 a"), 1, 1, 1, 0, 11);
            raced("none is due yet: five counts, and up", Edge.pressed(1, "40 a"), 1, 1, 1, 0, 6);
            raced("a buzzer", Edge.ladder("00 !0"), 0, -1, -1, 1, 2);
            raced("a slow buzzer", Edge.ladder("31 !0"), 0, -1, -1, 1, 6);
        });
        Edge.test(19, "and, if several are due, for each of them one more in which this one alone changes (all others keep the "
            + "counts that they have then).", () -> {
                // both, either, and then: both drop, or either drops while the other one keeps a count of 1
                raced("two that shut off one another", Edge.pressed(1, TWO), 2, 1, 2, 1, 6);
                // the count that one keeps goes on to 10, and no further
                raced("a buzzer ahead of a slow one", Edge.pressed(1, "00 !0", "90 a"), 0, -1, -1, 1, 16);
                // a third one, that is not due, counts on in each of the outcomes
                raced("two are due, a third one later", Edge.pressed(1, "00 a", "00 a", "10 a"), 1, 7, 7, 0, 8);
            });
    }

    private static void rests() {
        Edge.test(19, "A rest is a state that is met in which all is quiet; rests are told by who is up.", () -> {
            raced("the present one", Edge.ladder("00 a"), 1, 0, 0, 0, 1);
            raced("four quiet states, of two kinds", Edge.pressed(1, TWO), 2, 1, 2, 1, 6);
            raced("quiet by one way, with a wheel on others", Edge.pressed(1, "00 !0 !1", "00 a!0"), 1, 1, 1, 1, 6);
        });
        Edge.test(19, "There is a race if there are several rests with unlike relays up.", () -> {
            Edge.due("none", Edge.ladder("00 !0").race(0), 0);
            Edge.due("one", Edge.pressed(1, SIX_CALLED).race(0), 1);
            Edge.due("two", Edge.ladder("00", "00 1 !2", "00 !a").race(0), 2);
            Edge.due("three", Edge.pressed(1, "00 a!1!2", "00 a!0!2", "00 a!0!1").race(0), 3);
            raced("six", Edge.pressed(1, "00 a!1!2!3!4!5", "00 a!0!2!3!4!5", "00 a!0!1!3!4!5", "00 a!0!1!2!4!5",
                "00 a!0!1!2!3!5", "00 a!0!1!2!3!4"), 6, 1, 32, 1);
        });
    }

    private static void wheels() {
        Edge.test(19, "There is a wheel if some way goes on for ever (comes to a state that was on it already).", () -> {
            Edge.due("no way at all", new LadderRelays().race(3), 0);
            Edge.due("ways that meet again, but in no round", Edge.pressed(1, SIX_CALLED).race(3), 0);
            Edge.due("two rests, but no round", Edge.ladder("00", "00 1 !2", "00 !a").race(3), 0);
            Edge.due("a round of two states", Edge.ladder("00 !0").race(3), 1);
            Edge.due("a round of twenty", Edge.ladder("99 !0").race(3), 1);
            Edge.due("twenty states", Edge.ladder("99 !0").race(4), 20);
            Edge.due("a round that starts later", Edge.pressed(1, "90 a", "00 0!1").race(3), 1);
            Edge.due("a round that can be left", Edge.pressed(1, TWO).race(3), 1);
            // six are due: if relay 5 alone is first, again and again, no other one ever pulls and holds itself
            raced("a round by the last of seven outcomes", Edge.pressed(1, "00 a!5 0", "00 a!5 1", "00 a!5 2", "00 a!5 3",
                "00 a!5 4", "00 a!0!1!2!3!4!5"), 1, 31, 31, 1);
        });
    }

    private static void states() {
        Edge.test(19, "The states that are met from the present one by all such ways are looked at, as long as they are 300 at "
            + "most; if there are more, it is not told.", () -> {
                raced("300, to one rest", Edge.ladder(STATES_300), 1, 60, 60, 0, 300);
                raced("300, with wheels", Edge.ladder("67 !0", "69 !1", "56 0!2"), 0, -1, -1, 1, 300);
                raced("301", Edge.pressed(1, STATES_301), -1, -1, -1, -1, -1);
                // one tick later it is one state less
                LadderRelays x = Edge.pressed(1, STATES_301);
                int states = -1;
                for (int tick = 0; tick < 40 && states < 0; tick++) {
                    x.run(1);
                    states = x.race(4);
                }
                Edge.due("later on it is told", states > 0 && states <= 300 ? 1 : 0, 1);
                Edge.due("one rest", x.race(0), 1);
            });
        Edge.test(19, "Returns the number; NONE if it is not told.", () -> {
            raced("told", Edge.ladder("00", "00 1 !2", "00 !a"), 2, 4, 6, 0, 4);
            raced("told, with a wheel", Edge.pressed(1, "00 !0 !1", "00 a!0"), 1, 1, 1, 1, 6);
            raced("301", Edge.pressed(1, STATES_301), -1, -1, -1, -1, -1);
            raced("many", Edge.pressed(1, "11 !0", "22 !1", "33 !2", "44 !3", "55 !4", "66 !5"), -1, -1, -1, -1, -1);
            Edge.changesNothing("a look at it", Edge.NONE, () -> Edge.pressed(1, STATES_301), x -> x.race(3));
        });
    }

    private static void raceRefuses() {
        Edge.test(19, "Throws `IllegalArgumentException` if what is not 0 to 4", () -> {
            Edge.range("what", Edge.ARGUMENT, 0, 4, () -> Edge.pressed(1, TWO), LadderRelays::race);
            Edge.range("what, not told", Edge.ARGUMENT, 0, 4, () -> Edge.pressed(1, STATES_301), LadderRelays::race);
            Edge.range("what, without relays", Edge.ARGUMENT, 0, 4, LadderRelays::new, LadderRelays::race);
        });
        Edge.test(19, "Tells about races from the present state on.", () -> {
            LadderRelays x = Edge.pressed(1, "30 a", "30 a");
            raced("from the start", x, 1, 3, 3, 0, 7);
            x.run(3);
            raced("from the fourth tick on", x, 1, 3, 3, 0, 4);
            x.press(0);
            raced("without the input", x, 1, 0, 0, 0, 1);
            x.press(0);
            x.delay(0, 4, 0);
            raced("with another time: one pulls, and then the other", x, 1, 3, 3, 0, 3);
            x.undo();
            raced("undone", x, 1, 3, 3, 0, 4);
            x.run(1);
            raced("both are up", x, 1, 3, 3, 0, 1);
            looksAfterOthers();
        });
    }

    /** What one object looked at before must leave nothing behind: it tells what a new one tells. */
    private static void looksAfterOthers() {
        String[][] ladders = {SIX_CALLED, {"00 a!1", "00 a!0", "00", "00", "00", "00"}, STATES_300,
            {"00 !0", "90 a", "00", "00", "00", "00"}, {"40 a", "40 a", "60 a", "00 2", "00", "00"},
            {"57 !1", "88 a!2", "59 a0", "01 !0!3", "00", "00"}, {"90 a", "00 0!1", "00", "00", "00", "00"},
            {"00 a", "00 0", "00 1", "00 2", "00 3", "00 4"}, {"00 a!1!2", "00 a!0!2", "00 a!0!1", "00", "00", "00"}};
        LadderRelays x = Edge.pressed(1, "00", "00", "00", "00", "00", "00");
        for (int first = 0; first < ladders.length; first++) {
            for (int second = 0; second < ladders.length; second++) {
                told(x, ladders[first]);
                String fresh = told(Edge.pressed(1, "00", "00", "00", "00", "00", "00"), ladders[second]);
                Check.due("ladder " + second + " behind ladder " + first, told(x, ladders[second]), fresh);
            }
        }
    }

    /** Draws the ladder on an object of six relays, and tells its races and its cure. */
    private static String told(LadderRelays x, String... relays) {
        x.reset();
        for (int i = 0; i < 6; i++) {
            String[] parts = relays[i].split(" ", 2);
            x.strip(i);
            x.delay(i, parts[0].charAt(0) - '0', parts[0].charAt(1) - '0');
            if (parts.length > 1) {
                Edge.due("orders", Edge.typed(x, i + "=" + parts[1].replace(' ', '+')).draw(), 1);
            }
        }
        StringBuilder s = new StringBuilder();
        for (int what = 0; what < 5; what++) {
            s.append(x.race(what)).append(' ');
        }
        for (int what = 0; what < 3; what++) {
            s.append(x.cure(what)).append(' ');
        }
        return s.toString();
    }

    private static void races() {
        Edge.test(19, "`what`: 0: how many unlike rests there are", () -> {
            Edge.due("none", Edge.ladder("00 !0").race(0), 0);
            Edge.due("one", new LadderRelays().race(0), 1);
            Edge.due("three", Edge.pressed(1, "00 a!1!2", "00 a!0!2", "00 a!0!1").race(0), 3);
        });
        Edge.test(19, "1: the least of these masks, 2: the greatest, NONE for both without a rest", () -> {
            raced("one rest, 0", new LadderRelays(), 1, 0, 0);
            raced("one rest, 63", Edge.pressed(1, SIX_CALLED), 1, 63, 63);
            // relay 0 drops, or relay 1 pulls and holds it
            LadderRelays x = Edge.pressed(1, "00 a 1", "00 0!a", "90 1", "90 1", "90 1", "90 1");
            x.run(1);
            x.press(0);
            raced("two rests, 0 and 63", x, 2, 0, 63);
            raced("three rests", Edge.pressed(1, "00 a!1!2", "00 a!0!2", "00 a!0!1"), 3, 1, 4);
            raced("no rest", Edge.ladder("00 !0"), 0, Edge.NONE, Edge.NONE);
        });
        Edge.test(19, "3: 1 if there is a wheel, otherwise 0", () -> {
            Edge.due("a wheel", Edge.pressed(1, TWO).race(3), 1);
            Edge.due("none", Edge.pressed(1, "10 a!1", "00 a!0").race(3), 0);
        });
        Edge.test(19, "4: the states that are met", () -> {
            Edge.due("the present one alone", new LadderRelays().race(4), 1);
            Edge.due("the greatest", Edge.ladder(STATES_300).race(4), 300);
        });
    }

    private static void cureRefuses() {
        Edge.test(20, "Throws `IllegalArgumentException` if what is not 0 to 2", () -> {
            Edge.range("what", Edge.ARGUMENT, 0, 2, () -> Edge.pressed(1, TWO), LadderRelays::cure);
            Edge.range("what, no cure", Edge.ARGUMENT, 0, 2, LadderRelays::new, LadderRelays::cure);
            Edge.range("what, not told", Edge.ARGUMENT, 0, 2, () -> Edge.pressed(1, STATES_301), LadderRelays::cure);
        });
        Edge.test(20, "Returns the number, of the first change of one time", () -> {
            LadderRelays x = buzzed(7);
            // in whatever order they are asked for
            Edge.due("which time", x.cure(2), 1);
            Edge.due("by how much", x.cure(0), 8);
            Edge.due("the relay", x.cure(1), 5);
            x.delay(5, 0, 8);
            notCured("with the change that is told", x);
            x.delay(5, 0, 7);
            cured("with one tick less", x, 1, 5, 1);
            // from the present counts on: relay 1 is called one tick ahead of relay 0, and both are due at once
            LadderRelays y = Edge.pressed(1, "40 ab!1", "50 a!0");
            notCured("relay 1 alone is called", y);
            y.run(1);
            y.press(1);
            Edge.due("rests", y.race(0), 2);
            cured("with a count", y, 1, 0, 0);
        });
        Edge.test(20, "Finds the least cure.", () -> {
            Edge.changesNothing("a look at it", 1, () -> Edge.pressed(1, TWO), x -> x.cure(0));
            LadderRelays x = Edge.pressed(1, TWO);
            cured("two", x, 1, 0, 0);
            x.delay(0, 1, 0);
            raced("done", x, 1, 2, 2, 0, 2);
            notCured("done", x);
            x.undo();
            cured("undone", x, 1, 0, 0);
        });
    }

    /** The first one pulls while the second one, that buzzes, is up for long enough, and holds itself, and both. */
    private static LadderRelays buzzed(int pull) {
        return Edge.ladder("00", "00", "00", "00", pull + "2 5 4", "00 !4!5");
    }

    private static void cures() {
        Edge.test(20, "`what`: 0: by how much a time is longer, 1 to 9", () -> {
            Edge.due("the least", Edge.pressed(1, TWO).cure(0), 1);
            for (int pull = 0; pull <= 8; pull++) {
                Edge.due("at the time to pull of " + pull, buzzed(pull).cure(0), pull + 1);
            }
            notCured("10 would be needed", buzzed(9));
        });
        Edge.test(20, "1: the relay", () -> {
            Edge.due("the first of six", Edge.pressed(1, "00 a!1", "00 a!0", "00", "00", "00", "00").cure(1), 0);
            Edge.due("the last of six", buzzed(8).cure(1), 5);
        });
        Edge.test(20, "2: 0 if it is its time to pull, 1 if it is its time to drop", () -> {
            Edge.due("to pull", Edge.pressed(1, TWO).cure(2), 0);
            Edge.due("to drop", buzzed(8).cure(2), 1);
        });
        Edge.test(20, "with which there is just one rest and no wheel", () -> {
            // the first change, a longer time to pull, leaves one rest and a wheel
            raced("first change", Edge.pressed(1, "10 !0 !1", "00 a!0"), 1, 1, 1, 1);
            raced("second change", Edge.pressed(1, "01 !0 !1", "00 a!0"), 1, 1, 1, 0);
            cured("one rest and a wheel are no cure", Edge.pressed(1, "00 !0 !1", "00 a!0"), 1, 0, 1);
            // the first changes, of a relay that has no part in it, leave two rests without a wheel
            raced("first change, of three", Edge.ladder("10", "00 1 !2", "00 !a"), 2, 4, 6, 0);
            cured("two rests without a wheel are no cure", Edge.ladder("00", "00 1 !2", "00 !a"), 1, 1, 0);
            notCured("no rest", Edge.ladder("00 !0"));
        });
    }

    private static void orderOfCures() {
        Edge.test(20, "of the first change of one time, by ascending amounts, then relays, then pulling ahead of dropping", () -> {
            // 1 more for relay 1 cures, and so do 2 more for relay 0, but not 1 more
            raced("relay 0, 2 more to drop", Edge.ladder("12 !a!0 !1", "11 !0!1"), 1, 1, 1, 0);
            raced("relay 1, 1 more to pull", Edge.ladder("10 !a!0 !1", "21 !0!1"), 1, 1, 1, 0);
            cured("amounts ahead of relays", Edge.ladder("10 !a!0 !1", "11 !0!1"), 1, 1, 0);
            // relay 0, dropping, and relay 1, pulling
            raced("relay 1, 1 more to pull", Edge.pressed(1, "00 !0 !1", "10 a!0"), 1, 1, 1, 0);
            cured("relays ahead of pulling", Edge.pressed(1, "00 !0 !1", "00 a!0"), 1, 0, 1);
            // both times of relay 0
            raced("relay 0, 1 more to pull", Edge.ladder("10 !0!1", "00 1 !a"), 1, 2, 2, 0);
            raced("relay 0, 1 more to drop", Edge.ladder("01 !0!1", "00 1 !a"), 1, 2, 2, 0);
            cured("pulling ahead of dropping", Edge.ladder("00 !0!1", "00 1 !a"), 1, 0, 0);
            cured("relay 0 ahead of relay 1", Edge.pressed(1, TWO), 1, 0, 0);
        });
    }

    private static void cureUpTo9() {
        Edge.test(20, "(up to 9 ticks in all)", () -> {
            cured("from 8 to 9", Edge.pressed(1, "80 a!1", "80 a!0"), 1, 0, 0);
            notCured("10 is too long", Edge.pressed(1, "90 a!1", "90 a!0"));
            // a time of 9 is passed over, the other one's not
            cured("from 0 to 9", buzzed(8), 9, 5, 1);
            notCured("from 0 to 10", buzzed(9));
            LadderRelays x = Edge.ladder("00", "00", "00", "00", "82 5 4", "01 !4!5");
            cured("from 1 to 9", x, 8, 5, 1);
        });
    }

    private static void noCures() {
        Edge.test(20, "NONE if that is so now", () -> {
            notCured("without relays", new LadderRelays());
            notCured("quiet", Edge.ladder(SIX_CALLED));
            notCured("one rest, no wheel", Edge.pressed(1, SIX_CALLED));
            notCured("one rest, no wheel, 300 states", Edge.ladder(STATES_300));
            cured("one rest, a wheel", Edge.pressed(1, "00 !0 !1", "00 a!0"), 1, 0, 1);
            cured("two rests, no wheel", Edge.ladder("00", "00 1 !2", "00 !a"), 1, 1, 0);
        });
        Edge.test(20, "or it is not told", () -> {
            notCured("301 states", Edge.pressed(1, STATES_301));
            // it would be told with 1 more for relay 0, and cured
            raced("now", Edge.ladder("00 a !0!2", "76 !1!3", "31 !a3", "35 !a 3"), -1, -1, -1, -1, -1);
            raced("with 1 more", Edge.ladder("10 a !0!2", "76 !1!3", "31 !a3", "35 !a 3"), 1, 12, 12, 0, 15);
            notCured("not told now", Edge.ladder("00 a !0!2", "76 !1!3", "31 !a3", "35 !a 3"));
        });
        Edge.test(20, "or there is none (with which it is told).", () -> {
            notCured("a buzzer", Edge.ladder("00 !0"));
            notCured("three that shut off one another", Edge.pressed(1, "00 a!1!2", "00 a!0!2", "00 a!0!1"));
            // with 7 more for relay 0 there would be 301 states, and one rest
            raced("with 7 more", Edge.ladder("98 !3", "20 0!1", "56 !0", "67 2"), -1, -1, -1, -1, -1);
            notCured("none with which it is told", Edge.ladder("28 !3", "20 0!1", "56 !0", "67 2"));
        });
    }

    private static void cureUpTo300() {
        Edge.test(20, "NONE if that is so now, or it is not told, or there is none (with which it is told).", () -> {
            // a cure that leads to 300 states is one
            raced("with 1 more for relay 2", Edge.pressed(1, "01 !0!1", "93 a", "10 0!2", "57 !2"), 1, 10, 10, 0, 300);
            cured("300 states with it", Edge.pressed(1, "01 !0!1", "93 a", "00 0!2", "57 !2"), 1, 2, 0);
            raced("with 9 more for relay 1", Edge.ladder("98 !2", "49 3", "58 !1", "68 0 !1"), 1, 11, 11, 0, 300);
            cured("300 states with it, 9 more", Edge.ladder("98 !2", "40 3", "58 !1", "68 0 !1"), 9, 1, 1);
            // one that leads to 301 is passed over, and the next one found
            raced("with 7 more for relay 1", Edge.pressed(1, "57 !1", "88 a!2", "59 a0", "01 !0!3"), -1, -1, -1, -1, -1);
            Edge.due("with 8 more for relay 1, rests", Edge.pressed(1, "57 !1", "98 a!2", "59 a0", "01 !0!3").race(0), 1);
            cured("301 states with 7 more", Edge.pressed(1, "57 !1", "18 a!2", "59 a0", "01 !0!3"), 8, 1, 0);
        });
    }
}
