/** Promise 14, and the terms of undo and of exceptions: the boundaries that the document names, sentence by sentence. */
final class UndoEdges {
    private UndoEdges() {
    }

    static void all() {
        sixStates();
        latestState();
        whatIsSaved();
        callsThatSave();
        refusedCalls();
    }

    /** A ladder with so many saved states. */
    private static LadderRelays saved(int states) {
        LadderRelays x = new LadderRelays();
        for (int i = 0; i < states; i++) {
            x.press(i % 4);
        }
        return x;
    }

    private static void sixStates() {
        Edge.test(14, "At most 6 states are saved; the oldest one is dropped first.", () -> {
            for (int calls = 0; calls <= 14; calls++) {
                LadderRelays x = new LadderRelays();
                for (int i = 1; i <= calls; i++) {
                    x.run(i);
                    Edge.due("saved states after " + i, x.count(9), Math.min(6, i));
                }
                int left = Math.min(6, calls);
                int ticks = calls * (calls + 1) / 2;
                for (int i = calls; left > 0; i--) {
                    left--;
                    ticks -= i;
                    Edge.due("undo of run " + i + " of " + calls, x.undo(), left);
                    Edge.due("ticks ahead of run " + i + " of " + calls, x.count(7), ticks);
                }
                Check.due("undo of one more", Check.outcome(() -> x.undo()), "throws.IllegalStateException");
                Edge.due("the ticks stay", x.count(7), ticks);
            }
        });
        Edge.test(14, "Returns how many saved states are left.", () -> {
            LadderRelays x = saved(7);
            for (int left = 5; left >= 0; left--) {
                Edge.due("undo", x.undo(), left);
                Edge.due("saved states", x.count(9), left);
            }
            x.press(0);
            Edge.due("the only one", x.undo(), 0);
        });
        Edge.test(14, "Throws `IllegalStateException` if there is none", () -> {
            Edge.refused("a new object", Edge.STATE, LadderRelays::new, x -> x.undo());
            Edge.refused("all are undone", Edge.STATE, () -> undone(saved(3), 3), x -> x.undo());
            Edge.refused("six of nine are undone", Edge.STATE, () -> undone(saved(9), 6), x -> x.undo());
            Edge.refused("a full buffer alone", Edge.STATE, () -> Edge.typed(new LadderRelays(), "0=a"), x -> x.undo());
            Edge.due("five of nine are undone", undone(saved(9), 5).undo(), 0);
        });
    }

    private static LadderRelays undone(LadderRelays x, int times) {
        for (int i = 0; i < times; i++) {
            x.undo();
        }
        return x;
    }

    private static void latestState() {
        Edge.test(14, "Restores the latest saved state, and drops it.", () -> {
            LadderRelays x = Edge.ladder("00 a", "00 !a");
            String start = Told.ofLadder(x);
            x.press(0);
            String pressed = Told.ofLadder(x);
            x.run(1);
            String ran = Told.ofLadder(x);
            x.reset();
            x.undo();
            Check.due("the state ahead of reset", Told.ofLadder(x), ran);
            x.undo();
            Check.due("the state ahead of run", Told.ofLadder(x), pressed);
            x.undo();
            Check.due("the state ahead of press", Told.ofLadder(x), start);
            // what is undone is gone: an undo is no call that is undone
            x.press(1);
            x.undo();
            x.undo();
            Edge.due("the branch before is undone", x.count(5), 1);
        });
    }

    private static void whatIsSaved() {
        Edge.test(14, "Each method that is marked \"undoable\" and does not throw an exception saves the state from before it "
            + "(also if it changes nothing): all, also what is counted so far, but the buffer and the saved states.", () -> {
                LadderRelays x = Edge.typed(Edge.ladder("00 !0", "23 a!b"), "0=");
                x.press(0);
                x.run(2);
                LadderRelays like = Edge.typed(Edge.ladder("00 !0", "23 a!b"), "0=");
                like.press(0);
                like.run(2);
                changeAll(x);
                Edge.due("saved states", x.count(9), 6);
                for (int i = 0; i < 6; i++) {
                    x.undo();
                }
                Check.due("all as before", Told.ofLadder(x), Told.ofLadder(like));
                Edge.due("ticks", x.count(7), 2);
                Edge.due("changes", x.count(8), 2);
                Edge.due("changes of relay 0", x.relay(0, 7), 2);
                Edge.due("a count", x.relay(1, 2), 2);
                Edge.due("the buffer is not what it was: its error", x.firstError(), 3);
                Edge.due("its length", x.clearBuffer(), 4);
            });
        Edge.test(14, "(also if it changes nothing)", () -> {
            LadderRelays x = Edge.pressed(3, "11");
            undone(x, 3);
            x.add(1, 1);
            Edge.Call[] calls = {y -> y.strip(0), y -> y.delay(0, 1, 1), y -> y.settle(), y -> y.reset()};
            for (int i = 0; i < calls.length; i++) {
                String before = Told.ofLadder(x);
                calls[i].on(x);
                Check.due("call " + i + " changes nothing", Told.ofLadder(x), before);
                Edge.due("saved by call " + i, x.count(9), i + 2);
            }
            Check.type(x, "1=a");
            x.draw();
            Edge.due("saved by draw of no order", x.count(9), 6);
        });
    }

    /** Six calls that are undoable and, between them, changes of the buffer. */
    private static void changeAll(LadderRelays x) {
        x.press(1);
        x.branch(0, 4, 0);
        x.append('a');
        x.delay(1, 9, 9);
        x.run(50);
        x.strip(1);
        x.append('x');
        x.add(5, 5);
    }

    private static void callsThatSave() {
        Edge.test(14, "Each method that is marked \"undoable\"", () -> {
            Edge.Call[] undoable = {x -> x.add(1, 1), x -> x.branch(0, 1, 0), x -> x.strip(0), x -> x.delay(0, 2, 2),
                x -> x.press(0), x -> x.run(1), x -> x.settle(), x -> x.reset(), x -> x.draw()};
            for (int i = 0; i < undoable.length; i++) {
                LadderRelays x = Edge.typed(Edge.ladder("11 a"), "0=a");
                undoable[i].on(x);
                Edge.due("saved by call " + i, x.count(9), 3);
            }
            Edge.Call[] others = {x -> x.append('0'), x -> x.clearBuffer(), x -> x.firstError(), x -> x.relay(0, 0),
                x -> x.contacts(0, 0, 0), x -> x.count(0), x -> x.leads(0, 0), x -> x.race(0), x -> x.cure(0),
                x -> x.holding(), x -> x.idle(0), x -> (long) x.quietShare(), x -> x.digest()};
            for (int i = 0; i < others.length; i++) {
                LadderRelays x = Edge.typed(Edge.ladder("11 a"), "0=a");
                others[i].on(x);
                Edge.due("saved by other call " + i, x.count(9), 2);
            }
        });
    }

    static LadderRelays busy() {
        LadderRelays x = Edge.pressed(1, "00 !0", "92 a", "31 a!0 1 2 b");
        x.run(7);
        return Edge.typed(x, "0=a;0=");
    }

    private static void refusedCalls() {
        Edge.test(14, "A call that throws an exception changes nothing.", () -> {
            Edge.due("six states are saved ahead of it", busy().count(9), 6);
            Edge.refused("add", Edge.ARGUMENT, UndoEdges::busy, x -> x.add(10, 10));
            Edge.refused("branch of no relay", Edge.INDEX, UndoEdges::busy, x -> x.branch(3, 1, 0));
            Edge.refused("branch", Edge.ARGUMENT, UndoEdges::busy, x -> x.branch(0, 0, 0));
            Edge.refused("a fifth branch", Edge.STATE, UndoEdges::busy, x -> x.branch(2, 1, 0));
            Edge.refused("strip", Edge.INDEX, UndoEdges::busy, x -> x.strip(3));
            Edge.refused("delay of no relay", Edge.INDEX, UndoEdges::busy, x -> x.delay(3, 1, 1));
            Edge.refused("delay", Edge.ARGUMENT, UndoEdges::busy, x -> x.delay(0, 5, 10));
            Edge.refused("press", Edge.ARGUMENT, UndoEdges::busy, x -> x.press(4));
            Edge.refused("run", Edge.ARGUMENT, UndoEdges::busy, x -> x.run(100));
            Edge.refused("settle", Edge.STATE, UndoEdges::busy, x -> x.settle());
            Edge.refused("append", Edge.ARGUMENT, UndoEdges::busy, x -> x.append(127));
            Edge.refused("draw", Edge.ARGUMENT, UndoEdges::busy, x -> x.draw());
            Edge.refused("relay", Edge.INDEX, UndoEdges::busy, x -> x.relay(3, 0));
            Edge.refused("contacts", Edge.INDEX, UndoEdges::busy, x -> x.contacts(2, 4, 0));
            Edge.refused("count", Edge.ARGUMENT, UndoEdges::busy, x -> x.count(10));
            Edge.refused("leads", Edge.ARGUMENT, UndoEdges::busy, x -> x.leads(16, 0));
            Edge.refused("race", Edge.ARGUMENT, UndoEdges::busy, x -> x.race(5));
            Edge.refused("cure", Edge.ARGUMENT, UndoEdges::busy, x -> x.cure(3));
            Edge.refused("idle", Edge.INDEX, UndoEdges::busy, x -> x.idle(3));
        });
        Edge.test(14, "nothing is changed.", () -> {
            Edge.Call[] looks = {x -> x.relay(1, 8), x -> x.contacts(2, 3, 3), x -> x.count(7), x -> x.leads(15, 0),
                x -> x.leads(0, 1), x -> x.race(0), x -> x.race(4), x -> x.cure(0), x -> x.holding(), x -> x.idle(2),
                x -> (long) (x.quietShare() * 6), x -> x.digest(), x -> x.firstError()};
            for (int i = 0; i < looks.length; i++) {
                long want = looks[i].on(busy());
                Edge.changesNothing("look " + i, want, UndoEdges::busy, looks[i]);
            }
        });
    }
}
