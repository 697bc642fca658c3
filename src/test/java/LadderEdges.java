/** Promises 1 to 5: the boundaries that the document names, sentence by sentence. */
final class LadderEdges {
    private LadderEdges() {
    }

    static void all() {
        newObject();
        add();
        addRefuses();
        relays();
        branch();
        branchArguments();
        branchRefuses();
        contacts();
        strip();
        delay();
        delayRefuses();
    }

    private static void newObject() {
        Edge.test(1, "Creates a ladder without relays, all inputs off, with an empty buffer.", () -> {
            LadderRelays x = new LadderRelays();
            Edge.due("relays", x.count(0), 0);
            Edge.due("inputs", x.count(4), 0);
            Edge.due("saved states", x.count(9), 0);
            Edge.due("length of the buffer", x.clearBuffer(), 0);
            Edge.refused("a look at relay 0", Edge.INDEX, LadderRelays::new, y -> y.relay(0, 0));
        });
        Edge.test(1, "There are 4 inputs, numbered from 0, each on or off, at first off.", () -> {
            LadderRelays x = new LadderRelays();
            for (int input = 0; input < 4; input++) {
                x.press(input);
                Edge.due("inputs with " + input, x.count(4), 1 << input);
                x.press(input);
                Edge.due("inputs without " + input, x.count(4), 0);
            }
            Edge.range("input", Edge.ARGUMENT, 0, 3, LadderRelays::new, LadderRelays::press);
        });
        Edge.test(1, "The constants: `NONE = -1`: There is nothing to return.", () -> {
            Edge.due("NONE", LadderRelays.NONE, -1);
            Edge.due("idle of a relay without branches", Edge.bare(1).idle(0), LadderRelays.NONE);
        });
        Edge.test(1, "An object is used for at most 512 calls after it has been made; what later calls answer is free.",
            LadderEdges::calls512);
    }

    private static void calls512() {
        LadderRelays x = new LadderRelays();
        Model like = new Model();
        for (int call = 1; call <= 512; call++) {
            Check.due("call " + call, answer(call, x), answer(call, like));
        }
        for (int call = 513; call <= 1200; call++) {
            String got = answer(call, x);
            boolean told = got.matches("-?\\d+|throws.(IndexOutOfBounds|IllegalArgument|IllegalState)Exception");
            Check.due("call " + call + " is answered, or refused: " + got, told ? 1 : 0, 1);
        }
        // the greatest numbers that 512 calls can come to
        LadderRelays y = Edge.ladder("00 !0", "00 !1", "00 !2", "00 !3", "00 !4", "00 !5");
        for (int call = 13; call <= 510; call++) {
            y.run(99);
        }
        Edge.due("call 511: ticks", y.count(7), 498 * 99);
        Edge.due("call 512: changes", y.count(8), 6 * 498 * 99);
    }

    /** The answer to one of many calls, so chosen that the last of 512 is a digest. */
    private static String answer(int call, Object object) {
        switch (call % 9) {
            case 1:
                return Edge.answer(object, "add", call % 7, call % 5);
            case 2:
                return Edge.answer(object, "branch", call % 6, 1 << call % 10, 0);
            case 3:
                return Edge.answer(object, "press", call % 4);
            case 4:
                return Edge.answer(object, "run", 1 + call % 99);
            case 5:
                return Edge.answer(object, "append", 33 + call % 94);
            case 6:
                return Edge.answer(object, "branch", call % 5, 0, 16 << call % 6);
            case 7:
                return Edge.answer(object, call % 4 == 0 ? "undo" : "settle");
            case 8:
                return call % 5 == 2 ? Edge.answer(object, "digest") : Edge.answer(object, "leads", call % 16, call % 2);
            default:
                return Edge.answer(object, call % 5 == 0 ? "clearBuffer" : "holding");
        }
    }

    private static void add() {
        Edge.test(2, "Adds a relay without branches.", () -> {
            LadderRelays x = new LadderRelays();
            x.add(1, 1);
            Edge.due("branches", x.relay(0, 5), 0);
            x.branch(0, 1, 0);
            x.undo();
            x.undo();
            x.add(1, 1);
            Edge.due("branches of the relay that has come again", x.relay(0, 5), 0);
            Edge.due("all branches", x.count(5), 0);
            Edge.refused("a look at a branch", Edge.INDEX, () -> Edge.bare(1), y -> y.contacts(0, 0, 0));
        });
        Edge.test(2, "A relay is up or down, at first down, and has a count, at first 0", () -> {
            LadderRelays x = Edge.pressed(1, "01 a", "90 a");
            x.run(5);
            x.add(0, 0);
            Edge.due("up, among relays of which one is up", x.relay(2, 0), 0);
            Edge.due("count, among relays that count", x.relay(2, 2), 0);
            Edge.due("count of relay 1", x.relay(1, 2), 5);
            LadderRelays y = new LadderRelays();
            y.add(0, 0);
            y.branch(0, 0, 1);
            y.run(3);
            y.undo();
            y.undo();
            y.undo();
            y.add(5, 5);
            Edge.due("down", y.relay(0, 0), 0);
            Edge.due("count", y.relay(0, 2), 0);
            Edge.due("changes", y.relay(0, 7), 0);
        });
        Edge.test(2, "it takes a time to pull and a time to drop, 0 to 9 ticks each.", () -> {
            for (int time = 0; time <= 9; time++) {
                LadderRelays x = Edge.pressed(1, time + "" + (9 - time) + " a");
                Edge.due("ticks until it pulls, time " + time, x.settle(), time + 1);
                x.press(0);
                Edge.due("ticks until it drops, time " + (9 - time), x.settle(), 10 - time);
            }
            Edge.refused("a time of 10", Edge.ARGUMENT, LadderRelays::new, x -> x.add(10, 0));
        });
        Edge.test(2, "Undoable.", () -> {
            for (int relays = 0; relays <= 5; relays++) {
                int before = relays;
                Edge.undoable("add to " + relays, () -> Edge.bare(before), x -> x.add(3, 4));
            }
        });
    }

    private static void addRefuses() {
        Edge.test(2, "`pull`: 0 to 9", () -> {
            Edge.range("pull", Edge.ARGUMENT, 0, 9, LadderRelays::new, (x, pull) -> x.add(pull, 4));
            LadderRelays x = new LadderRelays();
            x.add(0, 4);
            x.add(9, 4);
            Edge.due("the least", x.relay(0, 3), 0);
            Edge.due("the greatest", x.relay(1, 3), 9);
        });
        Edge.test(2, "`drop`: 0 to 9", () -> {
            Edge.range("drop", Edge.ARGUMENT, 0, 9, LadderRelays::new, (x, drop) -> x.add(4, drop));
            LadderRelays x = new LadderRelays();
            x.add(4, 0);
            x.add(4, 9);
            Edge.due("the least", x.relay(0, 4), 0);
            Edge.due("the greatest", x.relay(1, 4), 9);
        });
        Edge.test(2, "Throws `IllegalArgumentException` if an argument is out of range", () -> {
            Edge.refused("one too small", Edge.ARGUMENT, () -> Edge.bare(5), x -> x.add(-1, 9));
            Edge.refused("one too large", Edge.ARGUMENT, () -> Edge.bare(5), x -> x.add(0, 10));
            Edge.refused("both", Edge.ARGUMENT, () -> Edge.bare(5), x -> x.add(10, -1));
            Edge.due("none", Edge.bare(5).add(0, 9), 5);
        });
        Edge.test(2, "Throws `IllegalStateException` if there are 6 relays", () -> {
            Edge.due("with 5", Edge.bare(5).add(0, 0), 5);
            Edge.refused("with 6", Edge.STATE, () -> Edge.bare(6), x -> x.add(0, 0));
            Edge.refused("with 6, other times", Edge.STATE, () -> Edge.bare(6), x -> x.add(9, 9));
        });
        Edge.test(2, "If several exceptions apply, the one that is named first in the throws clause is thrown.", () -> {
            Edge.refused("6 relays, pull too large", Edge.ARGUMENT, () -> Edge.bare(6), x -> x.add(10, 0));
            Edge.refused("6 relays, drop too small", Edge.ARGUMENT, () -> Edge.bare(6), x -> x.add(0, -1));
        });
    }

    private static void relays() {
        Edge.test(2, "Returns its number.", () -> {
            LadderRelays x = new LadderRelays();
            for (int relay = 0; relay <= 5; relay++) {
                Edge.due("number", x.add(9 - relay, relay), relay);
            }
        });
        Edge.test(2, "There are at most 6 relays, numbered from 0 in the order in which they came.", () -> {
            LadderRelays x = new LadderRelays();
            for (int relay = 0; relay <= 5; relay++) {
                x.add(9 - relay, relay);
                for (int earlier = 0; earlier <= relay; earlier++) {
                    Edge.due("time to pull of " + earlier, x.relay(earlier, 3), 9 - earlier);
                    Edge.due("time to drop of " + earlier, x.relay(earlier, 4), earlier);
                }
            }
            Edge.refused("a seventh", Edge.STATE, () -> Edge.bare(6), y -> y.add(0, 0));
            x.undo();
            Edge.due("relays without the sixth", x.count(0), 5);
            Edge.due("another sixth", x.add(7, 7), 5);
            Edge.due("its time", x.relay(5, 3), 7);
            Edge.due("relays", x.count(0), 6);
        });
    }

    private static void branch() {
        Edge.test(3, "Adds a branch to a relay.", () -> {
            LadderRelays x = Edge.bare(6);
            for (int relay = 5; relay >= 0; relay--) {
                x.branch(relay, 1 << relay, 0);
                Edge.due("branches of relay " + relay, x.relay(relay, 5), 1);
                Edge.due("all branches", x.count(5), 6 - relay);
            }
            Edge.due("contacts of relay 0", x.contacts(0, 0, 0), 1);
            Edge.due("contacts of relay 5", x.contacts(5, 0, 0), 32);
        });
        Edge.test(3, "Returns how many branches it has then.", () -> {
            LadderRelays x = Edge.bare(2);
            for (int branches = 1; branches <= 4; branches++) {
                Edge.due("branches of relay 1", x.branch(1, 1, 0), branches);
            }
            Edge.due("branches of relay 0", x.branch(0, 1, 0), 1);
            x.strip(1);
            Edge.due("branches of relay 1, stripped", x.branch(1, 1, 0), 1);
        });
        Edge.test(3, "A relay has at most 4 branches; a branch is one or more contacts in a row.", () -> {
            LadderRelays x = Edge.bare(6);
            Edge.due("one contact", x.branch(0, 1, 0), 1);
            Edge.due("ten contacts", x.branch(0, 1023, 0), 2);
            Edge.due("ten contacts, of both kinds", x.branch(0, 682, 341), 3);
            Edge.due("a fourth branch", x.branch(0, 0, 512), 4);
            Edge.due("contacts", x.count(6), 22);
            Edge.refused("no contact", Edge.ARGUMENT, () -> Edge.bare(6), y -> y.branch(0, 0, 0));
            Edge.refused("a fifth branch", Edge.STATE, () -> Edge.ladder("00 a b c d"), y -> y.branch(0, 1, 0));
        });
        Edge.test(3, "Throws `IllegalStateException` if it has 4 branches", () -> {
            Edge.due("with 3", Edge.ladder("00 a b c", "00").branch(0, 1, 0), 4);
            Edge.refused("with 4", Edge.STATE, () -> Edge.ladder("00 a a a a", "00"), x -> x.branch(0, 1, 0));
            LadderRelays x = Edge.ladder("00 a a a a", "00");
            Edge.due("the other relay", x.branch(1, 1, 0), 1);
            x.strip(0);
            Edge.due("stripped", x.branch(0, 1, 0), 1);
        });
        Edge.test(3, "Undoable.", () -> {
            Edge.undoable("a first branch", () -> Edge.bare(1), x -> x.branch(0, 1, 0));
            Edge.undoable("a fourth branch", () -> Edge.ladder("00 a b 0!c", "00"), x -> x.branch(0, 32, 16));
        });
    }

    private static void branchArguments() {
        Edge.test(3, "`relay`: its number", () -> {
            Edge.range("relay of 1", Edge.INDEX, 0, 0, () -> Edge.bare(1), (x, relay) -> x.branch(relay, 1, 0));
            Edge.range("relay of 6", Edge.INDEX, 0, 5, () -> Edge.bare(6), (x, relay) -> x.branch(relay, 1, 0));
        });
        Edge.test(3, "`closing`: 0 to 1023, the closing contacts", () -> {
            Edge.range("closing of 6", Edge.ARGUMENT, 1, 1023, () -> Edge.bare(6), (x, mask) -> x.branch(0, mask, 0));
            Edge.due("closing 0", Edge.bare(6).branch(0, 0, 1023), 1);
            Edge.refused("closing -1", Edge.ARGUMENT, () -> Edge.bare(6), x -> x.branch(0, -1, 0));
            Edge.refused("closing 1024", Edge.ARGUMENT, () -> Edge.bare(6), x -> x.branch(0, 1024, 1));
            Edge.refused("closing -1024", Edge.ARGUMENT, () -> Edge.bare(6), x -> x.branch(0, -1024, 1));
        });
        Edge.test(3, "`opening`: 0 to 1023, the opening ones", () -> {
            Edge.range("opening of 6", Edge.ARGUMENT, 1, 1023, () -> Edge.bare(6), (x, mask) -> x.branch(0, 0, mask));
            Edge.due("opening 0", Edge.bare(6).branch(0, 1023, 0), 1);
            Edge.refused("opening -1", Edge.ARGUMENT, () -> Edge.bare(6), x -> x.branch(0, 0, -1));
            Edge.refused("opening 1024", Edge.ARGUMENT, () -> Edge.bare(6), x -> x.branch(0, 1, 1024));
            Edge.refused("opening -1024", Edge.ARGUMENT, () -> Edge.bare(6), x -> x.branch(0, 1, -1024));
        });
        Edge.test(3, "Contacts of a branch are told as two masks, of closing and of opening ones: bit k for the input k, "
            + "bit 4 + k for the relay k.", () -> {
                for (int bit = 0; bit < 10; bit++) {
                    LadderRelays x = Edge.bare(6);
                    int mask = 1 << bit;
                    x.branch(0, mask, 0);
                    x.branch(0, 0, mask);
                    x.branch(bit < 4 ? 0 : bit - 4, 0, 1023 - mask);
                    Edge.due("closing contact " + bit, x.contacts(0, 0, 0), mask);
                    Edge.due("no opening one", x.contacts(0, 0, 1), 0);
                    Edge.due("no closing one", x.contacts(0, 1, 0), 0);
                    Edge.due("opening contact " + bit, x.contacts(0, 1, 1), mask);
                    if (bit < 4) {
                        x.press(bit);
                    } else {
                        x.run(1);
                        Edge.due("who is up", x.relay(bit - 4, 0), 1);
                    }
                    Edge.due("the closing one leads", x.contacts(0, 0, 2), 1);
                    Edge.due("the opening one does not", x.contacts(0, 1, 2), 0);
                }
            });
    }

    private static void branchRefuses() {
        Edge.test(3, "Throws `IndexOutOfBoundsException` if there is no such relay", () -> {
            Edge.refused("none at all", Edge.INDEX, LadderRelays::new, x -> x.branch(0, 1, 0));
            for (int relays = 1; relays <= 6; relays++) {
                int all = relays;
                Edge.due("the last of " + all, Edge.bare(all).branch(all - 1, 1, 0), 1);
                Edge.refused("one beyond " + all, Edge.INDEX, () -> Edge.bare(all), x -> x.branch(all, 1, 0));
            }
        });
        Edge.test(3, "Throws `IllegalArgumentException` if both are 0", () -> {
            Edge.refused("both", Edge.ARGUMENT, () -> Edge.bare(2), x -> x.branch(1, 0, 0));
            Edge.due("closing alone", Edge.bare(2).branch(1, 1, 0), 1);
            Edge.due("opening alone", Edge.bare(2).branch(1, 0, 1), 1);
        });
        Edge.test(3, "or have a bit in common", () -> {
            for (int bit = 0; bit < 10; bit++) {
                int mask = 1 << bit;
                Edge.refused("bit " + bit, Edge.ARGUMENT, () -> Edge.bare(6), x -> x.branch(0, mask, mask));
                Edge.refused("bit " + bit + " of all", Edge.ARGUMENT, () -> Edge.bare(6), x -> x.branch(0, 1023, mask));
                Edge.due("all but bit " + bit, Edge.bare(6).branch(0, mask, 1023 - mask), 1);
            }
        });
        Edge.test(3, "or one has a bit for a relay that there is not", () -> {
            for (int relays = 1; relays <= 5; relays++) {
                int all = relays;
                int last = 8 << all;
                int next = 16 << all;
                Edge.due("closing, the last of " + all, Edge.bare(all).branch(0, last, 0), 1);
                Edge.due("opening, the last of " + all, Edge.bare(all).branch(0, 0, last), 1);
                Edge.refused("closing, beyond " + all, Edge.ARGUMENT, () -> Edge.bare(all), x -> x.branch(0, next, 0));
                Edge.refused("opening, beyond " + all, Edge.ARGUMENT, () -> Edge.bare(all), x -> x.branch(0, 1, next));
                Edge.refused("both, beyond " + all, Edge.ARGUMENT, () -> Edge.bare(all), x -> x.branch(0, 512, next | 1));
            }
        });
        Edge.test(3, "or is out of range", () -> {
            for (int mask : new int[] {-1, -512, 1024, 1024 | 1, 1 << 30, Integer.MIN_VALUE, Integer.MIN_VALUE | 1}) {
                Edge.refused("closing " + mask, Edge.ARGUMENT, () -> Edge.bare(6), x -> x.branch(0, mask, 0));
                Edge.refused("opening " + mask, Edge.ARGUMENT, () -> Edge.bare(6), x -> x.branch(0, 0, mask));
                Edge.refused("opening " + mask + " of 1", Edge.ARGUMENT, () -> Edge.bare(1), x -> x.branch(0, 2, mask));
            }
        });
        Edge.test(3, "If several exceptions apply, the one that is named first in the throws clause is thrown.", () -> {
            Edge.refused("no relay, no contact", Edge.INDEX, () -> Edge.bare(2), x -> x.branch(2, 0, 0));
            Edge.refused("no relay, a common bit", Edge.INDEX, () -> Edge.bare(2), x -> x.branch(-1, 1, 1));
            Edge.Maker full = () -> Edge.ladder("00 a b c d");
            Edge.refused("4 branches, no contact", Edge.ARGUMENT, full, x -> x.branch(0, 0, 0));
            Edge.refused("4 branches, a common bit", Edge.ARGUMENT, full, x -> x.branch(0, 3, 1));
            Edge.refused("4 branches, a relay that there is not", Edge.ARGUMENT, full, x -> x.branch(0, 1, 32));
            Edge.refused("4 branches, out of range", Edge.ARGUMENT, full, x -> x.branch(0, 1024, 0));
        });
    }

    private static void contacts() {
        Edge.test(3, "A contact is one of an input or of a relay (also of its own), and it is a closing or an opening one: "
            + "a closing one leads if the input is on, or the relay is up; an opening one leads if not.", () -> {
                LadderRelays x = Edge.ladder("00 d !d 0 !0", "00 0 !0");
                leading("off and down", x, 0, 0, 1, 0, 1);
                leading("off and down, of another", x, 1, 0, 1);
                x.press(3);
                x.run(1);
                leading("on and up", x, 0, 1, 0, 1, 0);
                Edge.due("relay 1 saw relay 0 down, and came up", x.count(1), 3);
                leading("on and up, of another", x, 1, 1, 0);
            });
        Edge.test(3, "A branch leads if all of its contacts do.", () -> {
            LadderRelays x = Edge.pressed(15, "00 abcd012345", "00 a", "00 a", "00 a", "00 a", "00 a");
            Edge.due("four of ten contacts", x.contacts(0, 0, 2), 0);
            x.run(1);
            Edge.due("nine of ten contacts", x.contacts(0, 0, 3), 1);
            Edge.due("the branch with nine of ten", x.contacts(0, 0, 2), 0);
            x.branch(0, 1, 0);
            x.run(1);
            Edge.due("the branch with all ten", x.contacts(0, 0, 2), 1);
            x.press(2);
            Edge.due("the branch with nine again", x.contacts(0, 0, 2), 0);
        });
        Edge.test(3, "A relay is called if one of its branches leads (so without branches it never is).", () -> {
            LadderRelays x = Edge.ladder("00 a b c d", "00");
            Edge.due("none of four leads", x.relay(0, 1), 0);
            for (int input = 0; input < 4; input++) {
                x.press(input);
                Edge.due("branch " + input + " alone leads", x.relay(0, 1), 1);
                x.press(input);
            }
            Edge.press(x, 15);
            Edge.due("all lead", x.relay(0, 1), 1);
            Edge.due("without branches", x.relay(1, 1), 0);
            x.strip(0);
            Edge.due("stripped", x.relay(0, 1), 0);
        });
    }

    /** Whether the branches of a relay lead, from the first one on. */
    private static void leading(String what, LadderRelays x, int relay, int... want) {
        for (int branch = 0; branch < want.length; branch++) {
            Edge.due(what + ": branch " + branch + " leads", x.contacts(relay, branch, 2), want[branch]);
        }
    }

    private static void strip() {
        Edge.test(4, "Takes all branches of a relay away.", () -> {
            LadderRelays x = Edge.ladder("00 a b c d", "00 a b c d", "00 a b c d");
            x.strip(1);
            Edge.due("branches of relay 0", x.relay(0, 5), 4);
            Edge.due("branches of relay 1", x.relay(1, 5), 0);
            Edge.due("branches of relay 2", x.relay(2, 5), 4);
            Edge.due("contacts of relay 2", x.contacts(2, 3, 0), 8);
            Edge.refused("a look at a branch", Edge.INDEX, LadderEdges::stripped, y -> y.contacts(0, 0, 0));
            // the count stays until a tick goes by
            LadderRelays z = Edge.pressed(1, "99 a");
            z.run(6);
            z.strip(0);
            Edge.due("its count", z.relay(0, 2), 6);
            z.branch(0, 1, 0);
            Edge.due("its count with another branch", z.relay(0, 2), 6);
            Edge.due("it goes on from there", z.settle(), 4);
        });
        Edge.test(4, "Returns how many it had.", () -> {
            String[] rungs = {"00", "00 a", "00 a b", "00 a b c", "00 a b c d"};
            for (int branches = 0; branches <= 4; branches++) {
                LadderRelays x = Edge.ladder("00 a b c", rungs[branches]);
                Edge.due("strip", x.strip(1), branches);
                Edge.due("strip again", x.strip(1), 0);
            }
        });
        Edge.test(4, "`relay`: its number", () -> {
            Edge.range("relay of 1", Edge.INDEX, 0, 0, () -> Edge.ladder("00 a"), LadderRelays::strip);
            Edge.range("relay of 6", Edge.INDEX, 0, 5, () -> Edge.bare(6), LadderRelays::strip);
        });
        Edge.test(4, "Throws `IndexOutOfBoundsException` if there is no such relay", () -> {
            Edge.refused("none at all", Edge.INDEX, LadderRelays::new, x -> x.strip(0));
            Edge.refused("one beyond", Edge.INDEX, () -> Edge.ladder("00 a", "00 b"), x -> x.strip(2));
        });
        Edge.test(4, "Undoable.", () -> {
            Edge.undoable("strip of four", () -> Edge.ladder("00 a !0 b!c d0!a"), x -> x.strip(0));
            Edge.undoable("strip of none", () -> Edge.bare(1), x -> x.strip(0));
        });
    }

    private static LadderRelays stripped() {
        LadderRelays x = Edge.ladder("00 a b", "00 c");
        x.strip(0);
        return x;
    }

    private static void delay() {
        Edge.test(5, "Changes the times of a relay.", () -> {
            LadderRelays x = Edge.pressed(1, "99 a", "99 a");
            x.run(9);
            x.delay(0, 8, 0);
            Edge.due("time to pull", x.relay(0, 3), 8);
            Edge.due("time to drop", x.relay(0, 4), 0);
            Edge.due("times of the other", x.relay(1, 3) * 10 + x.relay(1, 4), 99);
            Edge.due("its count stays", x.relay(0, 2), 9);
            Edge.due("it is not up yet", x.relay(0, 0), 0);
            x.delay(1, 0, 0);
            Edge.due("both are due in the next tick", x.run(1), 2);
        });
        Edge.test(5, "Returns its time to pull before.", () -> {
            LadderRelays x = Edge.ladder("05", "90");
            Edge.due("the least", x.delay(0, 9, 1), 0);
            Edge.due("the greatest", x.delay(0, 0, 2), 9);
            Edge.due("of the other", x.delay(1, 9, 9), 9);
            Edge.due("the same", x.delay(1, 9, 9), 9);
        });
        Edge.test(5, "Undoable.", () -> {
            Edge.undoable("other times", () -> Edge.pressed(1, "39 a"), x -> x.delay(0, 0, 0));
            Edge.undoable("the same times", () -> Edge.pressed(1, "39 a"), x -> x.delay(0, 3, 9));
        });
    }

    private static void delayRefuses() {
        Edge.Maker one = () -> Edge.pressed(1, "34 a");
        Edge.test(5, "`relay`: its number", () -> {
            Edge.range("relay of 1", Edge.INDEX, 0, 0, one, (x, relay) -> x.delay(relay, 1, 2));
            Edge.range("relay of 6", Edge.INDEX, 0, 5, () -> Edge.bare(6), (x, relay) -> x.delay(relay, 1, 2));
        });
        Edge.test(5, "`pull`: 0 to 9", () -> Edge.range("pull", Edge.ARGUMENT, 0, 9, one, (x, t) -> x.delay(0, t, 5)));
        Edge.test(5, "`drop`: 0 to 9", () -> Edge.range("drop", Edge.ARGUMENT, 0, 9, one, (x, t) -> x.delay(0, 5, t)));
        Edge.test(5, "Throws `IndexOutOfBoundsException` if there is no such relay", () -> {
            Edge.refused("none at all", Edge.INDEX, LadderRelays::new, x -> x.delay(0, 1, 1));
            Edge.refused("one beyond", Edge.INDEX, one, x -> x.delay(1, 1, 1));
        });
        Edge.test(5, "Throws `IllegalArgumentException` if pull or drop is out of range", () -> {
            Edge.refused("pull too large", Edge.ARGUMENT, one, x -> x.delay(0, 10, 9));
            Edge.refused("drop too small", Edge.ARGUMENT, one, x -> x.delay(0, 0, -1));
            Edge.refused("both", Edge.ARGUMENT, one, x -> x.delay(0, -1, 10));
        });
        Edge.test(5, "If several exceptions apply, the one that is named first in the throws clause is thrown.", () -> {
            Edge.refused("no relay, pull too large", Edge.INDEX, one, x -> x.delay(1, 10, 0));
            Edge.refused("no relay, drop too small", Edge.INDEX, one, x -> x.delay(-1, 0, -1));
        });
    }
}
