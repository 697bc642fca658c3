import java.util.ArrayList;
import java.util.Arrays;
import java.util.HashMap;
import java.util.HashSet;
import java.util.LinkedHashMap;
import java.util.LinkedList;
import java.util.List;
import java.util.Map;
import java.util.Set;
import java.util.TreeSet;

/**
 * The document once more, as naively as it can be put, by means that the program does not use: lists, sets, texts
 * as keys, recursion, and texts read by splitting them. ModelTest compares the two.
 */
public final class Model {
    private static final class Branch {
        final int closing;
        final int opening;

        Branch(int closing, int opening) {
            this.closing = closing;
            this.opening = opening;
        }
    }

    private static final class Relay {
        List<Branch> branches = new ArrayList<>();
        int pull;
        int drop;
        boolean up;
        int count;
        int changed;

        Relay copy() {
            Relay r = new Relay();
            r.branches.addAll(branches);
            r.pull = pull;
            r.drop = drop;
            r.up = up;
            r.count = count;
            r.changed = changed;
            return r;
        }
    }

    private static final class World {
        List<Relay> relays = new ArrayList<>();
        boolean[] inputs = new boolean[4];
        int ticks;
        int changes;

        World copy() {
            World w = new World();
            for (Relay r : relays) {
                w.relays.add(r.copy());
            }
            w.inputs = inputs.clone();
            w.ticks = ticks;
            w.changes = changes;
            return w;
        }

        boolean isOn(int contact) {
            return contact < 4 ? inputs[contact] : relays.get(contact - 4).up;
        }

        int notLeading(Branch b) {
            int sum = 0;
            for (int contact = 0; contact < 10; contact++) {
                if ((b.closing >> contact & 1) == 1 && !isOn(contact)) {
                    sum++;
                }
                if ((b.opening >> contact & 1) == 1 && isOn(contact)) {
                    sum++;
                }
            }
            return sum;
        }

        boolean called(Relay r) {
            for (Branch b : r.branches) {
                if (notLeading(b) == 0) {
                    return true;
                }
            }
            return false;
        }

        boolean content(Relay r) {
            return r.up == called(r);
        }

        int restless() {
            int sum = 0;
            for (Relay r : relays) {
                sum += content(r) ? 0 : 1;
            }
            return sum;
        }

        int upMask() {
            int mask = 0;
            for (int i = 0; i < relays.size(); i++) {
                mask += relays.get(i).up ? 1 << i : 0;
            }
            return mask;
        }

        /** Counts, and returns who is due. */
        List<Relay> countUp() {
            List<Boolean> contents = new ArrayList<>();
            for (Relay r : relays) {
                contents.add(content(r));
            }
            List<Relay> due = new ArrayList<>();
            for (int i = 0; i < relays.size(); i++) {
                Relay r = relays.get(i);
                if (contents.get(i)) {
                    r.count = 0;
                } else {
                    r.count = Math.min(10, r.count + 1);
                    if (r.count > (r.up ? r.drop : r.pull)) {
                        due.add(r);
                    }
                }
            }
            return due;
        }

        void turn(Relay r) {
            r.up = !r.up;
            r.count = 0;
            r.changed++;
            changes++;
        }

        void tick() {
            for (Relay r : countUp()) {
                turn(r);
            }
            ticks++;
        }

        /** How many ticks went by until all is quiet, or -1. */
        int goQuiet() {
            int gone = 0;
            while (restless() > 0) {
                if (gone == 200) {
                    return -1;
                }
                tick();
                gone++;
            }
            return gone;
        }

        String key() {
            StringBuilder s = new StringBuilder();
            for (Relay r : relays) {
                s.append(r.up ? 'U' : 'D').append(r.count);
            }
            return s.toString();
        }

        List<World> outcomes() {
            List<World> all = new ArrayList<>();
            if (restless() == 0) {
                return all;
            }
            World together = copy();
            List<Integer> due = new ArrayList<>();
            for (Relay r : together.countUp()) {
                due.add(together.relays.indexOf(r));
            }
            World counted = together.copy();
            for (int i : due) {
                together.turn(together.relays.get(i));
            }
            all.add(together);
            if (due.size() > 1) {
                for (int i : due) {
                    World alone = counted.copy();
                    alone.turn(alone.relays.get(i));
                    all.add(alone);
                }
            }
            return all;
        }
    }

    /** What is found on all ways: null answers where it is not told. */
    private static final class Findings {
        final Map<String, List<String>> ways = new LinkedHashMap<>();
        final TreeSet<Integer> rests = new TreeSet<>();
        boolean told = true;
        boolean wheel;

        Findings(World start) {
            LinkedList<World> open = new LinkedList<>();
            Set<String> met = new HashSet<>();
            open.add(start);
            met.add(start.key());
            while (!open.isEmpty()) {
                World w = open.removeFirst();
                if (w.restless() == 0) {
                    rests.add(w.upMask());
                }
                List<String> next = new ArrayList<>();
                for (World v : w.outcomes()) {
                    next.add(v.key());
                    if (met.add(v.key())) {
                        open.addLast(v);
                    }
                }
                ways.put(w.key(), next);
                if (met.size() > 300) {
                    told = false;
                    return;
                }
            }
            wheel = comesBack(start.key(), new HashMap<>());
        }

        private boolean comesBack(String at, Map<String, Boolean> onTheWay) {
            onTheWay.put(at, true);
            for (String to : ways.get(at)) {
                Boolean open = onTheWay.get(to);
                if (open == null ? comesBack(to, onTheWay) : open) {
                    return true;
                }
            }
            onTheWay.put(at, false);
            return false;
        }

        boolean cured() {
            return told && rests.size() == 1 && !wheel;
        }
    }

    private World now = new World();
    private final LinkedList<World> saved = new LinkedList<>();
    private String buffer = "";

    private void save() {
        saved.addLast(now.copy());
        if (saved.size() > 6) {
            saved.removeFirst();
        }
    }

    private static void argument(boolean right) {
        if (!right) {
            throw new IllegalArgumentException();
        }
    }

    private static void state(boolean right) {
        if (!right) {
            throw new IllegalStateException();
        }
    }

    private Relay at(int relay) {
        if (relay < 0 || relay >= now.relays.size()) {
            throw new IndexOutOfBoundsException();
        }
        return now.relays.get(relay);
    }

    private static boolean in(int from, int value, int to) {
        return from <= value && value <= to;
    }

    public int add(int pull, int drop) {
        argument(in(0, pull, 9) && in(0, drop, 9));
        state(now.relays.size() < 6);
        save();
        Relay r = new Relay();
        r.pull = pull;
        r.drop = drop;
        now.relays.add(r);
        return now.relays.size() - 1;
    }

    public int branch(int relay, int closing, int opening) {
        Relay r = at(relay);
        argument(in(0, closing, 1023) && in(0, opening, 1023));
        argument(closing != 0 || opening != 0);
        for (int k = 0; k < 10; k++) {
            boolean closes = (closing & 1 << k) != 0;
            boolean opens = (opening & 1 << k) != 0;
            argument(!(closes && opens));
            argument(!(closes || opens) || k - 4 < now.relays.size());
        }
        state(r.branches.size() < 4);
        save();
        r.branches.add(new Branch(closing, opening));
        return r.branches.size();
    }

    public int strip(int relay) {
        Relay r = at(relay);
        save();
        int had = r.branches.size();
        r.branches.clear();
        return had;
    }

    public int delay(int relay, int pull, int drop) {
        Relay r = at(relay);
        argument(in(0, pull, 9) && in(0, drop, 9));
        save();
        int before = r.pull;
        r.pull = pull;
        r.drop = drop;
        return before;
    }

    public int press(int input) {
        argument(in(0, input, 3));
        save();
        now.inputs[input] = !now.inputs[input];
        return now.restless();
    }

    public int run(int ticks) {
        argument(in(1, ticks, 99));
        save();
        int before = now.changes;
        for (int i = 0; i < ticks; i++) {
            now.tick();
        }
        return now.changes - before;
    }

    public int settle() {
        World w = now.copy();
        int gone = w.goQuiet();
        state(gone >= 0);
        save();
        now = w;
        return gone;
    }

    public int reset() {
        save();
        int had = 0;
        for (Relay r : now.relays) {
            had += r.up ? 1 : 0;
            r.up = false;
            r.count = 0;
        }
        return had;
    }

    public int append(int code) {
        argument(in(33, code, 126));
        state(buffer.length() < 60);
        buffer += (char) code;
        return buffer.length();
    }

    public int clearBuffer() {
        int had = buffer.length();
        buffer = "";
        return had;
    }

    private static boolean isRung(String rung) {
        String[] branches = rung.split("\\+", -1);
        if (branches.length > 4) {
            return false;
        }
        for (String b : branches) {
            String names = b.replace("!", "");
            if (!b.matches("(!?[a-d0-5])+") || names.chars().distinct().count() != names.length()) {
                return false;
            }
        }
        return true;
    }

    static boolean isLadder(String text) {
        for (String order : text.split(";", -1)) {
            boolean rung = order.matches("[0-5]=.*") && isRung(order.substring(2));
            if (!rung && !order.matches("[uv][0-5]:[0-9]")) {
                return false;
            }
        }
        return true;
    }

    private static final String[] TAILS = {"", "=a", ":0", "0:0", "u0:0",
        "a", "b", "c", "d", "0", "1", "2", "3", "4", "5"};

    /** Each beginning of a ladder can be ended by one of the tails. */
    static boolean begins(String text) {
        for (String tail : TAILS) {
            if (isLadder(text + tail)) {
                return true;
            }
        }
        return false;
    }

    public int firstError() {
        for (int i = 0; i < buffer.length(); i++) {
            if (!begins(buffer.substring(0, i + 1))) {
                return i;
            }
        }
        return buffer.length();
    }

    private boolean known(char contact) {
        return contact >= 'a' || contact - '0' < now.relays.size();
    }

    private boolean obey(String order) {
        boolean timed = order.charAt(0) == 'u' || order.charAt(0) == 'v';
        char name = timed ? order.charAt(1) : order.charAt(0);
        if (!known(name)) {
            return false;
        }
        Relay r = now.relays.get(name - '0');
        if (timed) {
            int time = order.charAt(3) - '0';
            r.pull = order.charAt(0) == 'u' ? time : r.pull;
            r.drop = order.charAt(0) == 'v' ? time : r.drop;
            return true;
        }
        List<Branch> rung = new ArrayList<>();
        for (String text : order.substring(2).split("\\+")) {
            int[] masks = new int[2];
            int kind = 0;
            for (char c : text.toCharArray()) {
                if (c == '!') {
                    kind = 1;
                    continue;
                }
                if (!known(c)) {
                    return false;
                }
                masks[kind] += 1 << (c >= 'a' ? c - 'a' : 4 + c - '0');
                kind = 0;
            }
            rung.add(new Branch(masks[0], masks[1]));
        }
        r.branches = rung;
        return true;
    }

    public int draw() {
        argument(isLadder(buffer));
        save();
        int done = 0;
        for (String order : buffer.split(";")) {
            if (!obey(order)) {
                break;
            }
            done++;
        }
        buffer = "";
        return done;
    }

    public int undo() {
        state(!saved.isEmpty());
        now = saved.removeLast();
        return saved.size();
    }

    public int relay(int relay, int what) {
        Relay r = at(relay);
        argument(in(0, what, 8));
        boolean own = false;
        for (Branch b : r.branches) {
            own |= (b.closing >> (4 + relay) & 1) == 1;
        }
        int until = 0;
        if (!now.content(r)) {
            int count = r.count;
            do {
                until++;
                count++;
            } while (count <= (r.up ? r.drop : r.pull));
        }
        int[] answers = {r.up ? 1 : 0, now.called(r) ? 1 : 0, r.count, r.pull, r.drop, r.branches.size(), own ? 1 : 0,
            r.changed, until};
        return answers[what];
    }

    public int contacts(int relay, int branch, int what) {
        Relay r = at(relay);
        if (branch < 0 || branch >= r.branches.size()) {
            throw new IndexOutOfBoundsException();
        }
        argument(in(0, what, 3));
        Branch b = r.branches.get(branch);
        int against = now.notLeading(b);
        int[] answers = {b.closing, b.opening, against == 0 ? 1 : 0, against};
        return answers[what];
    }

    public int count(int what) {
        argument(in(0, what, 9));
        int called = 0;
        int branches = 0;
        int contacts = 0;
        for (int i = 0; i < now.relays.size(); i++) {
            Relay r = now.relays.get(i);
            called += now.called(r) ? 1 << i : 0;
            branches += r.branches.size();
            for (Branch b : r.branches) {
                contacts += Integer.toBinaryString(b.closing).replace("0", "").length();
                contacts += Integer.toBinaryString(b.opening).replace("0", "").length();
            }
        }
        int on = 0;
        for (int i = 0; i < 4; i++) {
            on += now.inputs[i] ? 1 << i : 0;
        }
        int[] answers = {now.relays.size(), now.upMask(), called, now.restless(), on, branches, contacts, now.ticks,
            now.changes, saved.size()};
        return answers[what];
    }

    private World with(int inputs) {
        World w = now.copy();
        for (int i = 0; i < 4; i++) {
            w.inputs[i] = (inputs >> i & 1) == 1;
        }
        return w;
    }

    public int leads(int inputs, int what) {
        argument(in(0, inputs, 15) && in(0, what, 1));
        World w = with(inputs);
        int gone = w.goQuiet();
        return gone < 0 ? -1 : what == 0 ? w.upMask() : gone;
    }

    public int race(int what) {
        argument(in(0, what, 4));
        Findings f = new Findings(now);
        if (!f.told) {
            return -1;
        }
        int[] answers = {f.rests.size(), f.rests.isEmpty() ? -1 : f.rests.first(),
            f.rests.isEmpty() ? -1 : f.rests.last(), f.wheel ? 1 : 0, f.ways.size()};
        return answers[what];
    }

    private int[] findCure() {
        int[] none = {-1, -1, -1};
        Findings f = new Findings(now);
        if (!f.told || f.cured()) {
            return none;
        }
        for (int amount = 1; amount <= 9; amount++) {
            for (int relay = 0; relay < now.relays.size(); relay++) {
                for (int kind = 0; kind < 2; kind++) {
                    World w = now.copy();
                    Relay r = w.relays.get(relay);
                    r.pull += kind == 0 ? amount : 0;
                    r.drop += kind == 1 ? amount : 0;
                    if (r.pull <= 9 && r.drop <= 9 && new Findings(w).cured()) {
                        return new int[] {amount, relay, kind};
                    }
                }
            }
        }
        return none;
    }

    public int cure(int what) {
        argument(in(0, what, 2));
        return findCure()[what];
    }

    public int holding() {
        World w = with(0);
        return w.goQuiet() < 0 ? 0 : now.upMask() & w.upMask();
    }

    /** Whether a branch leads by these signals, a bit for each contact. */
    private static boolean leadsBy(Branch b, int signals) {
        return (b.closing & signals) == b.closing && (b.opening & signals) == 0;
    }

    public int idle(int relay) {
        Relay r = at(relay);
        for (int b = 0; b < r.branches.size(); b++) {
            boolean alone = false;
            for (int signals = 0; signals < 1024 && !alone; signals++) {
                boolean other = false;
                for (int c = 0; c < r.branches.size(); c++) {
                    other |= c != b && leadsBy(r.branches.get(c), signals);
                }
                alone = leadsBy(r.branches.get(b), signals) && !other;
            }
            if (!alone) {
                return b;
            }
        }
        return -1;
    }

    public double quietShare() {
        int all = now.relays.size();
        return all == 0 ? 1.0 : (double) (all - now.restless()) / all;
    }

    public long digest() {
        List<Long> values = new ArrayList<>();
        for (int i = 0; i <= 9; i++) {
            values.add((long) count(i));
        }
        for (int r = 0; r < now.relays.size(); r++) {
            for (int i = 0; i <= 8; i++) {
                values.add((long) relay(r, i));
            }
            for (int b = 0; b < now.relays.get(r).branches.size(); b++) {
                for (int i = 0; i <= 3; i++) {
                    values.add((long) contacts(r, b, i));
                }
            }
            values.add((long) idle(r));
        }
        for (int inputs : Arrays.asList(0, 1, 6, 15)) {
            values.add((long) leads(inputs, 0));
            values.add((long) leads(inputs, 1));
        }
        for (int i = 0; i <= 4; i++) {
            values.add((long) race(i));
        }
        for (int cure : findCure()) {
            values.add((long) cure);
        }
        values.add((long) holding());
        values.add(Double.doubleToLongBits(quietShare()));
        values.add((long) buffer.length());
        for (char c : buffer.toCharArray()) {
            values.add((long) c);
        }
        long hash = 2843;
        for (long v : values) {
            hash = 31 * hash + v;
        }
        return hash;
    }
}
