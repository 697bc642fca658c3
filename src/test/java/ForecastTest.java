/** Promises 18 to 24: leads, race, cure, holding, idle, quietShare, digest; and the terms of races. */
public final class ForecastTest {
    private static final Class<?> INDEX = IndexOutOfBoundsException.class;
    private static final Class<?> ARGUMENT = IllegalArgumentException.class;

    public static void main(String[] args) {
        leads();
        leadsWithin200Ticks();
        raceOfTwo();
        raceWithoutRest();
        raceKeepsCounts();
        raceToOneRest();
        statesAreToldUpTo300();
        cures();
        curesByMore();
        cureRefusesLongerTimes();
        holding();
        idle();
        idleOfAllContacts();
        quietShare();
        digestOfNewObject();
        digest();
        refusals();
        Check.end();
    }

    private static void races(String name, LadderRelays x, int... want) {
        for (int what = 0; what < 5; what++) {
            Check.due(name + ": race " + what, x.race(what), want[what]);
        }
    }

    private static void cured(String name, LadderRelays x, int amount, int relay, int kind) {
        Check.due(name + ": cure 0", x.cure(0), amount);
        Check.due(name + ": cure 1", x.cure(1), relay);
        Check.due(name + ": cure 2", x.cure(2), kind);
    }

    /** Two relays of which each one opens the other, called by input 0. */
    private static LadderRelays two(int pull, int drop) {
        LadderRelays x = new LadderRelays();
        x.add(pull, drop);
        x.add(pull, drop);
        x.branch(0, 1, 32);
        x.branch(1, 1, 16);
        x.press(0);
        return x;
    }

    private static LadderRelays buzzer() {
        LadderRelays x = new LadderRelays();
        x.add(0, 0);
        x.branch(0, 0, 16);
        return x;
    }

    private static void leads() {
        LadderRelays x = new LadderRelays();
        x.add(2, 1);
        x.add(0, 0);
        x.branch(0, 1, 0);
        x.branch(0, 16, 2);
        x.branch(1, 4, 16);
        x.branch(1, 8, 0);
        int[] masks = {0, 1, 0, 1, 2, 1, 2, 1, 2, 3, 2, 3, 2, 3, 2, 3};
        int[] ticks = {0, 3, 0, 3, 1, 4, 1, 4, 1, 3, 1, 3, 1, 3, 1, 3};
        for (int inputs = 0; inputs < 16; inputs++) {
            Check.due("up with inputs " + inputs, x.leads(inputs, 0), masks[inputs]);
            Check.due("ticks with inputs " + inputs, x.leads(inputs, 1), ticks[inputs]);
        }
        x.press(0);
        x.run(2);
        Check.due("counts are gone on with", x.leads(1, 1), 1);
        Check.due("the inputs that are on do not matter", x.leads(0, 1), 0);
        x.run(1);
        Check.due("it holds", x.leads(0, 0), 1);
        Check.due("it drops", x.leads(2, 0), 0);
        Check.due("in two ticks", x.leads(2, 1), 2);
        Check.due("nothing is changed", x.count(7) * 100 + x.count(4) * 10 + x.count(1), 311);
    }

    private static void leadsWithin200Ticks() {
        LadderRelays x = RunningTest.longRing();
        x.run(99);
        x.run(99);
        x.run(88);
        Check.due("201 ticks", x.leads(0, 1), -1);
        Check.due("201 ticks: who is up", x.leads(0, 0), -1);
        x.run(1);
        Check.due("200 ticks", x.leads(0, 1), 200);
        int up = x.leads(0, 0);
        x.settle();
        Check.due("who is up", up, x.count(1));
        Check.due("in a ring that is quiet", up == 4 || up == 11 ? 1 : 0, 1);
        Check.due("a buzzer", buzzer().leads(15, 1), -1);
    }

    private static void raceOfTwo() {
        LadderRelays x = two(0, 0);
        races("two", x, 2, 1, 2, 1, 6);
        cured("two", x, 1, 0, 0);
        x.delay(0, 1, 0);
        races("cured", x, 1, 2, 2, 0, 2);
        cured("cured", x, -1, -1, -1);
        x.undo();
        races("two again", x, 2, 1, 2, 1, 6);
        cured("two again", x, 1, 0, 0);
        x.press(0);
        races("without input", x, 1, 0, 0, 0, 1);
        cured("without input", x, -1, -1, -1);
        LadderRelays none = new LadderRelays();
        races("no relays", none, 1, 0, 0, 0, 1);
        cured("no relays", none, -1, -1, -1);
    }

    private static void raceWithoutRest() {
        LadderRelays x = buzzer();
        races("buzzer", x, 0, -1, -1, 1, 2);
        cured("buzzer", x, -1, -1, -1);
        LadderRelays slow = new LadderRelays();
        slow.add(3, 1);
        slow.branch(0, 0, 16);
        races("slow buzzer", slow, 0, -1, -1, 1, 6);
    }

    private static void raceKeepsCounts() {
        // a buzzer may be first again and again, while the other relay, due, keeps a count of 10
        LadderRelays x = buzzer();
        x.add(9, 0);
        x.branch(1, 1, 0);
        x.press(0);
        races("buzzer and slow relay", x, 0, -1, -1, 1, 16);
    }

    private static void raceToOneRest() {
        // both are due, in whatever order they come to the one rest: start, both, either one
        LadderRelays x = new LadderRelays();
        x.add(0, 0);
        x.add(0, 0);
        x.branch(0, 1, 0);
        x.branch(1, 1, 0);
        x.press(0);
        races("one rest", x, 1, 3, 3, 0, 4);
        cured("one rest", x, -1, -1, -1);
        // three that exclude one another: what is longer leaves two others
        LadderRelays y = new LadderRelays();
        for (int i = 0; i < 3; i++) {
            y.add(0, 0);
        }
        for (int i = 0; i < 3; i++) {
            y.branch(i, 1, 112 & ~(16 << i));
        }
        y.press(0);
        Check.due("three rests", y.race(0), 3);
        Check.due("the least", y.race(1), 1);
        Check.due("the greatest", y.race(2), 4);
        cured("three", y, -1, -1, -1);
    }

    private static LadderRelays ofThree(int[] times, int[] masks) {
        LadderRelays x = new LadderRelays();
        for (int i = 0; i < 3; i++) {
            x.add(times[2 * i], times[2 * i + 1]);
        }
        for (int i = 0; i < 3; i++) {
            x.branch(i, masks[2 * i], masks[2 * i + 1]);
        }
        x.press(0);
        return x;
    }

    private static void statesAreToldUpTo300() {
        LadderRelays x = ofThree(new int[] {8, 4, 1, 3, 8, 8}, new int[] {1, 48, 17, 32, 1, 64});
        races("300 states", x, 0, -1, -1, 1, 300);
        LadderRelays y = ofThree(new int[] {9, 4, 8, 1, 5, 1}, new int[] {1, 16, 65, 0, 1, 32});
        races("301 states", y, -1, -1, -1, -1, -1);
        cured("301 states", y, -1, -1, -1);
    }

    private static void cures() {
        // both hold while the other one is down: they are up, and let go at once
        LadderRelays x = new LadderRelays();
        x.add(0, 0);
        x.add(0, 0);
        x.branch(0, 1, 0);
        x.branch(0, 0, 32);
        x.branch(1, 1, 0);
        x.branch(1, 0, 16);
        x.press(0);
        x.settle();
        x.press(0);
        races("two that let go", x, 2, 1, 2, 1, 6);
        cured("two that let go", x, 1, 0, 1);
        // the times that are longer are tried on counts as they are
        LadderRelays w = two(3, 0);
        w.run(2);
        races("later on", w, 2, 1, 2, 1, 9);
        cured("later on", w, 1, 0, 0);
        Check.due("nothing is changed", w.relay(0, 3) * 100 + w.relay(0, 2) * 10 + w.count(1), 320);
    }

    private static void curesByMore() {
        // relay 0 buzzes ahead of relay 1; at 1 more they race, at 2 more relay 1 is first, and shuts relay 0 off
        LadderRelays x = new LadderRelays();
        x.add(0, 1);
        x.add(1, 0);
        x.branch(0, 0, 48);
        x.branch(1, 0, 16);
        races("buzzing ahead", x, 0, -1, -1, 1, 3);
        cured("buzzing ahead", x, 2, 0, 0);
        x.delay(0, 1, 1);
        cured("by 1 already", x, 1, 0, 0);
        // relay 1 buzzes too fast for relay 0, until it drops after relay 0 has pulled and holds itself
        LadderRelays y = new LadderRelays();
        y.add(2, 2);
        y.add(0, 0);
        y.branch(0, 32, 0);
        y.branch(0, 16, 0);
        y.branch(1, 0, 48);
        races("buzzing too fast", y, 0, -1, -1, 1, 3);
        cured("buzzing too fast", y, 3, 1, 1);
        y.delay(0, 8, 2);
        cured("a slower relay 0", y, 9, 1, 1);
        y.delay(0, 9, 2);
        cured("a time of 10 there is not", y, -1, -1, -1);
        y.delay(0, 2, 2);
        y.delay(1, 0, 2);
        races("it may drop or pull first", y, 1, 1, 1, 1, y.race(4));
        cured("it may drop or pull first", y, 1, 1, 1);
    }

    private static void cureRefusesLongerTimes() {
        LadderRelays x = two(9, 0);
        Check.due("told", x.race(0), 2);
        cured("both at 9", x, -1, -1, -1);
        x.delay(1, 8, 0);
        cured("no race", x, -1, -1, -1);
        x.delay(0, 8, 9);
        cured("both at 8", x, 1, 0, 0);
    }

    private static void holding() {
        LadderRelays x = new LadderRelays();
        x.add(0, 0);
        x.add(0, 0);
        x.add(0, 0);
        x.branch(0, 1, 0);
        x.branch(0, 16, 2);
        x.branch(1, 1, 0);
        x.branch(2, 0, 1);
        Check.due("nobody is up", x.holding(), 0);
        x.press(0);
        x.settle();
        Check.due("relay 0 holds, 1 does not, 2 would come up", x.holding(), 1);
        x.press(1);
        x.press(0);
        x.press(1);
        Check.due("still", x.holding(), 1);
        x.settle();
        Check.due("0 and 2", x.holding(), 5);
        x.press(1);
        x.settle();
        Check.due("2 alone", x.holding(), 4);
        LadderRelays y = new LadderRelays();
        y.add(0, 0);
        y.branch(0, 1, 0);
        y.branch(0, 16, 0);
        y.press(0);
        y.settle();
        Check.due("it holds", y.holding(), 1);
        y.add(0, 0);
        y.branch(1, 0, 32 | 2);
        y.press(1);
        Check.due("quiet now", y.count(3), 0);
        Check.due("never quiet without inputs", y.holding(), 0);
    }

    private static void idleOfAllContacts() {
        LadderRelays x = new LadderRelays();
        for (int i = 0; i < 6; i++) {
            x.add(0, 0);
        }
        x.branch(3, 1023, 0);
        Check.due("all closing", x.idle(3), -1);
        x.branch(3, 0, 1023);
        Check.due("and all opening", x.idle(3), -1);
        x.branch(3, 512, 256);
        x.branch(3, 768, 255);
        Check.due("and others", x.idle(3), -1);
        x.branch(2, 1023, 0);
        x.branch(2, 512, 0);
        Check.due("all closing, and one of them", x.idle(2), 0);
    }

    private static void idles(int want, int... masks) {
        LadderRelays x = new LadderRelays();
        x.add(0, 0);
        x.add(0, 0);
        for (int i = 0; i < masks.length; i += 2) {
            x.branch(1, masks[i], masks[i + 1]);
        }
        Check.due("idle of " + java.util.Arrays.toString(masks), x.idle(1), want);
        Check.due("idle of the other", x.idle(0), -1);
    }

    private static void idle() {
        idles(-1);
        idles(-1, 1, 0);
        idles(-1, 0, 1);
        idles(-1, 63, 0);
        idles(-1, 0, 63);
        idles(0, 1, 0, 1, 0);
        idles(1, 1, 0, 3, 0);
        idles(0, 3, 0, 1, 0);
        idles(-1, 3, 0, 1, 2);
        idles(2, 1, 0, 0, 1, 2, 0);
        idles(-1, 1, 0, 0, 1);
        idles(-1, 16, 0, 0, 48);
        idles(1, 16, 0, 48, 0);
        idles(3, 17, 0, 0, 1, 32, 0, 18, 4);
        // each of the three parts of branch 3 is covered by another branch
        idles(3, 4, 0, 8, 0, 0, 12, 1, 0);
        idles(-1, 4, 0, 8, 2, 0, 12, 1, 0);
        idles(-1, 0, 1, 1, 2, 3, 4, 7, 0);
        idles(3, 0, 1, 1, 2, 3, 4, 1, 14);
    }

    private static void quietShare() {
        LadderRelays x = new LadderRelays();
        Check.due("without relays", Double.toString(x.quietShare()), "1.0");
        for (int all = 1; all <= 6; all++) {
            x.add(0, 0);
            x.branch(all - 1, 1 << (all - 1) % 4, 0);
            Check.due("all content", Double.toString(x.quietShare()), "1.0");
        }
        LadderRelays one = new LadderRelays();
        one.add(0, 0);
        one.branch(0, 0, 1);
        Check.due("none of one", Double.toString(one.quietShare()), "0.0");
        x.press(0);
        Check.due("four of six", Double.toString(x.quietShare()), Double.toString(4.0 / 6.0));
        x.press(2);
        x.press(3);
        Check.due("two of six", Double.toString(x.quietShare()), Double.toString(2.0 / 6.0));
        x.press(1);
        Check.due("none of six", Double.toString(x.quietShare()), "0.0");
        x.run(1);
        Check.due("all of six", Double.toString(x.quietShare()), "1.0");
    }

    private static long hash(long hash, long... values) {
        for (long v : values) {
            hash = 31 * hash + v;
        }
        return hash;
    }

    private static void digestOfNewObject() {
        long h = hash(2843, 0, 0, 0, 0, 0, 0, 0, 0, 0, 0);
        h = hash(h, 0, 0, 0, 0, 0, 0, 0, 0);
        h = hash(h, 1, 0, 0, 0, 1);
        h = hash(h, -1, -1, -1);
        h = hash(h, 0, 0x3FF0000000000000L, 0);
        LadderRelays x = new LadderRelays();
        Check.due("digest of a new object", x.digest(), h);
        x.append('~');
        Check.due("with a buffer", x.digest(), 31 * (h + 1) + '~');
    }

    private static void digest() {
        LadderRelays x = two(0, 0);
        x.branch(0, 8, 4);
        Check.type(x, "0=a;!");
        Check.due("digest of two", x.digest(), Digest.of(x, "0=a;!"));
        x.run(3);
        Check.due("digest of two later", x.digest(), Digest.of(x, "0=a;!"));
        // the bits of each share that there is
        for (int all = 1; all <= 6; all++) {
            for (int called = 0; called <= all; called++) {
                LadderRelays y = new LadderRelays();
                for (int i = 0; i < all; i++) {
                    y.add(1, 1);
                }
                for (int i = 0; i < called; i++) {
                    y.branch(i, 0, 1);
                }
                Check.due("digest with " + called + " of " + all, y.digest(), Digest.of(y, ""));
            }
        }
    }

    private static void refusals() {
        LadderRelays x = two(1, 1);
        int[] far = {Integer.MIN_VALUE, -1, 16, Integer.MAX_VALUE};
        for (int wrong : far) {
            Check.refuses(x, "leads " + wrong, ARGUMENT, () -> x.leads(wrong, 0));
            Check.refuses(x, "leads, what " + wrong, ARGUMENT, () -> x.leads(0, wrong));
            Check.refuses(x, "race " + wrong, ARGUMENT, () -> x.race(wrong));
            Check.refuses(x, "cure " + wrong, ARGUMENT, () -> x.cure(wrong));
            Check.refuses(x, "idle " + wrong, INDEX, () -> x.idle(wrong));
        }
        Check.refuses(x, "leads, what 2", ARGUMENT, () -> x.leads(0, 2));
        Check.refuses(x, "race 5", ARGUMENT, () -> x.race(5));
        Check.refuses(x, "cure 3", ARGUMENT, () -> x.cure(3));
        Check.refuses(x, "idle 2", INDEX, () -> x.idle(2));
        LadderRelays none = new LadderRelays();
        Check.refuses(none, "idle without relays", INDEX, () -> none.idle(0));
    }
}
