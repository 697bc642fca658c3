import java.util.ArrayList;
import java.util.List;

/** Promises 22 to 24: the boundaries that the document names, sentence by sentence. */
final class ShareEdges {
    private static final String FULL = " abcd012345 abcd012345 !a!b!c!d!0!1!2!3!4!5 ab!c!d01!2!34!5";

    private ShareEdges() {
    }

    static void all() {
        idle();
        idleRefuses();
        quietShare();
        hash();
        hashedRelays();
        hashedForecasts();
        hashedBuffer();
    }

    private static void idles(int want, String branches) {
        LadderRelays x = Edge.ladder("00", "00", "00" + branches, "00", "00", "00");
        Edge.due("idle of" + branches, x.idle(2), want);
        // whatever is on and up now
        Edge.press(x, 15);
        x.run(1);
        Edge.due("idle of" + branches + " with inputs", x.idle(2), want);
        Edge.due("idle of another relay", x.idle(0), Edge.NONE);
    }

    private static void idle() {
        Edge.test(22, "Finds a contact that does nothing.", () -> {
            Edge.changesNothing("a look at it", 1, () -> Edge.ladder("00 a a!b"), x -> x.idle(0));
            Edge.changesNothing("a look at none", Edge.NONE, () -> Edge.ladder("00 a b"), x -> x.idle(0));
        });
        Edge.test(22, "Returns the lowest branch that never leads alone: whenever it does, another branch of the relay leads, "
            + "too, whatever inputs are on and relays are up", () -> {
                idles(0, " a a");
                idles(0, " a a a a");
                idles(0, " ab b");
                idles(1, " b ab");
                idles(3, " a b c abc");
                idles(3, " b !bc !b!c ad");
                // two others together lead whenever it does
                idles(0, " ab a!2 2");
                idles(2, " a !a 5");
                idles(2, " a !a abcd012345");
                // two of them are idle: the lowest is told
                idles(1, " a ab ac d");
                // three others, for all but one of eight ways, and for all
                idles(Edge.NONE, " 2 b!2 c d!c");
                idles(0, " 5 a !a");
                // alone by one of all settings only
                idles(Edge.NONE, " abcd012345 !5 !4");
                idles(Edge.NONE, " !a!b!c!d!0!1!2!3!4!5 5 4 3");
                idles(0, " abcd012345 5");
                idles(0, " !a!b!c!d!0!1!2!3!4!5 !a");
            });
        Edge.test(22, "NONE if there is none.", () -> {
            idles(Edge.NONE, "");
            idles(Edge.NONE, " a");
            idles(Edge.NONE, " !5");
            idles(Edge.NONE, " abcd012345");
            idles(Edge.NONE, " a b c d");
            idles(Edge.NONE, " a !a");
            idles(Edge.NONE, " 2 !2a");
        });
    }

    private static void idleRefuses() {
        Edge.test(22, "`relay`: its number", () -> {
            Edge.range("relay of 1", Edge.INDEX, 0, 0, () -> Edge.ladder("00 a a"), LadderRelays::idle);
            Edge.range("relay of 6", Edge.INDEX, 0, 5, () -> Edge.bare(6), LadderRelays::idle);
        });
        Edge.test(22, "Throws `IndexOutOfBoundsException` if there is no such relay", () -> {
            Edge.refused("none at all", Edge.INDEX, LadderRelays::new, x -> x.idle(0));
            Edge.refused("one beyond", Edge.INDEX, () -> Edge.ladder("00 a a"), x -> x.idle(1));
            Edge.refused("-1", Edge.INDEX, () -> Edge.ladder("00 a a"), x -> x.idle(-1));
        });
    }

    /** So many relays, of which so many are not content. */
    private static LadderRelays restless(int all, int called) {
        String[] relays = new String[all];
        for (int i = 0; i < all; i++) {
            relays[i] = i < called ? "00 !a" : "00 a";
        }
        return Edge.ladder(relays);
    }

    private static void share(String what, double got, double want) {
        Check.due(what, Double.toString(got), Double.toString(want));
    }

    private static void quietShare() {
        Edge.test(23, "Returns the relays that are content, as a double, divided by all relays", () -> {
            for (int all = 1; all <= 6; all++) {
                for (int called = 0; called <= all; called++) {
                    double want = (double) (all - called) / all;
                    share(called + " of " + all + " are not", restless(all, called).quietShare(), want);
                }
            }
            LadderRelays x = restless(6, 3);
            x.run(1);
            share("they are up", x.quietShare(), 1.0);
            x.press(0);
            share("all are due", x.quietShare(), 0.0);
        });
        Edge.test(23, "1.0 without relays.", () -> {
            share("a new object", new LadderRelays().quietShare(), 1.0);
            LadderRelays x = Edge.ladder("00 !a");
            share("one, called", x.quietShare(), 0.0);
            x.undo();
            share("one, without branches", x.quietShare(), 1.0);
            x.undo();
            x.press(0);
            share("none again", x.quietShare(), 1.0);
        });
        Edge.test(23, "Returns how quiet it is.", () ->
            Edge.changesNothing("a look at it", 50, () -> restless(6, 3), x -> (long) (100 * x.quietShare())));
    }

    private static void digested(String what, LadderRelays x, String buffer) {
        Edge.due("digest of " + what, x.digest(), Digest.of(x, buffer));
    }

    private static void hash() {
        Edge.test(24, "The hash starts at 2843.", () -> {
            // a new object: what each of its values is, by the document
            long[] told = {0, 0, 0, 0, 0, 0, 0, 0, 0, 0, 0, 0, 0, 0, 0, 0, 0, 0, 1, 0, 0, 0, 1, -1, -1, -1, 0,
                0x3FF0000000000000L, 0};
            List<Long> values = new ArrayList<>();
            for (long value : told) {
                values.add(value);
            }
            Edge.due("a new object", new LadderRelays().digest(), Digest.hash(values));
        });
        Edge.test(24, "For each value v of the following list, in order, the hash becomes 31 * hash + v, in long arithmetic "
            + "with overflow.", () -> {
                digested("few values", new LadderRelays(), "");
                digested("many values", Edge.pressed(1, "12 a", "34 b!0 !1", "56 a a"), "");
                Edge.changesNothing("a look at it", Edge.ladder("00 a").digest(), () -> Edge.ladder("00 a"), x -> x.digest());
            });
        Edge.test(24, "Computes a hash of the whole state.", () -> {
            LadderRelays x = Edge.pressed(1, "99 a");
            long before = x.digest();
            x.run(1);
            Edge.due("the same after a tick", x.digest() == before ? 1 : 0, 0);
            x.undo();
            Edge.due("as before", x.digest(), before);
        });
    }

    private static void hashedRelays() {
        Edge.test(24, "The values are: count(0) to count(9)", () -> {
            LadderRelays x = Edge.pressed(15, "00 a", "00 b", "00 c", "00 d", "00 0", "00 !0");
            digested("six relays", x, "");
            x.run(99);
            digested("six relays later", x, "");
        });
        Edge.test(24, "for each relay its properties 0 to 8, its branches, by ascending numbers, with 0 to 3, and idle", () -> {
            digested("a relay without branches", Edge.bare(1), "");
            digested("six relays without branches", Edge.bare(6), "");
            String full = "00" + FULL;
            LadderRelays x = Edge.ladder(full, full, full, full, full, full);
            digested("six relays with 24 branches", x, "");
            x.press(3);
            x.run(1);
            x.strip(2);
            digested("six relays with 20 branches", x, "");
        });
    }

    private static void hashedForecasts() {
        Edge.test(24, "leads of the inputs 0, 1, 6 and 15, each with 0 and 1", () -> {
            digested("a relay for each", Edge.ladder("00 !a!b!c!d", "10 a!b", "20 bc!a", "30 abcd"), "");
            digested("a buzzer without inputs", Edge.ladder("00 !0!a!b"), "");
            digested("the ring, 201 ticks", RunningEdges.ringAhead(201), "");
            digested("the ring, 200 ticks", RunningEdges.ringAhead(200), "");
        });
        Edge.test(24, "race with 0 to 4; cure with 0 to 2", () -> {
            digested("two rests", Edge.pressed(1, "00 a!1", "00 a!0"), "");
            digested("no rest", Edge.ladder("00 !0"), "");
            digested("300 states", Edge.ladder("67 !0", "69 !1", "56 0!2"), "");
            digested("301 states", Edge.pressed(1, "57 !1", "88 a!2", "59 a0", "01 !0!3"), "");
            digested("a cure by 9", Edge.ladder("00", "00", "00", "00", "82 5 4", "00 !4!5"), "");
        });
        Edge.test(24, "holding; the bits of quietShare (as Double.doubleToLongBits)", () -> {
            LadderRelays x = Edge.pressed(1, "00 a 0", "00 a 1", "00 a 2", "00 a 3", "00 a 4", "00 a 5");
            x.run(1);
            Edge.due("holding", x.holding(), 63);
            digested("six that hold", x, "");
            for (int all = 0; all <= 6; all++) {
                for (int called = 0; called <= all; called++) {
                    digested("the share with " + called + " of " + all, restless(all, called), "");
                }
            }
        });
    }

    private static void hashedBuffer() {
        Edge.test(24, "the length of the buffer and each of its character codes.", () -> {
            for (String text : new String[] {"", "!", "~", "0=a;u0:1", "0=a!!"}) {
                digested("the buffer " + text, Edge.typed(Edge.bare(1), text), text);
            }
            StringBuilder text = new StringBuilder();
            for (int i = 0; i < 60; i++) {
                text.append((char) (126 - i));
            }
            digested("a full buffer", Edge.typed(new LadderRelays(), text.toString()), text.toString());
            LadderRelays x = Edge.typed(new LadderRelays(), text.toString());
            x.clearBuffer();
            digested("a buffer that was cleared", x, "");
            x.append('7');
            digested("a buffer of one again", x, "7");
        });
        Edge.test(24, "Returns the hash.", () -> digested("a new object", new LadderRelays(), ""));
    }
}
