import java.util.Arrays;

/** Sluggish relays drawn as ladders; ../shared/DOC.md says what each call promises. */
public final class LadderRelays {
    public static final int NONE = -1;

    private static final int INPUTS = 4;
    private static final int ALL_INPUTS = 15;
    private static final int MOST_RELAYS = 6;
    private static final int MOST_BRANCHES = 4;
    private static final int ALL_CONTACTS = 1023;
    private static final int LONGEST_TIME = 9;
    private static final int HIGHEST_COUNT = 10;
    private static final int MOST_TICKS_OF_RUN = 99;
    private static final int MOST_TICKS_TO_QUIET = 200;
    private static final int MOST_STATES = 300;
    private static final int MOST_SAVED = 6;
    private static final int MOST_SIGNS = 60;
    private static final int FIRST_SIGN = 33;
    private static final int LAST_SIGN = 126;
    private static final int NUMBERS = 10;
    private static final int PROPERTIES = 9;
    private static final int CONTACT_ANSWERS = 4;
    private static final int LEAD_ANSWERS = 2;
    private static final int RACE_ANSWERS = 5;
    private static final int CURE_ANSWERS = 3;
    private static final long FIRST_HASH = 2843L;
    private static final int[] HASHED_INPUTS = {0, 1, 6, 15};

    private final Ladder now;
    /** A ladder to try things on, so that looks change nothing. */
    private final Ladder trial;
    private final Ladder[] saved;
    private int savedCount;
    private final int[] signs;
    private int length;
    private final Reader reader;
    private final Ways ways;
    private final int[] raceAnswers;
    private boolean raceKnown;
    private final int[] cureAnswers;
    private boolean cureKnown;

    public LadderRelays() {
        now = new Ladder();
        trial = new Ladder();
        saved = new Ladder[MOST_SAVED];
        for (int i = 0; i < MOST_SAVED; i++) {
            saved[i] = new Ladder();
        }
        signs = new int[MOST_SIGNS];
        reader = new Reader();
        ways = new Ways();
        raceAnswers = new int[RACE_ANSWERS];
        cureAnswers = new int[CURE_ANSWERS];
    }

    // ---- the ladder

    public int add(int pull, int drop) throws IllegalArgumentException, IllegalStateException {
        if (!isTime(pull) || !isTime(drop)) {
            throw new IllegalArgumentException("a time is not 0 to 9");
        }
        if (now.relays >= MOST_RELAYS) {
            throw new IllegalStateException("there are 6 relays");
        }
        save();
        return now.addRelay(pull, drop);
    }

    public int branch(int relay, int closing, int opening)
            throws IndexOutOfBoundsException, IllegalArgumentException, IllegalStateException {
        if (!now.hasRelay(relay)) {
            throw new IndexOutOfBoundsException("no such relay");
        }
        if (!now.hasContacts(closing) || !now.hasContacts(opening)) {
            throw new IllegalArgumentException("a mask names a contact that there is not");
        }
        if ((closing | opening) == 0 || (closing & opening) != 0) {
            throw new IllegalArgumentException("no contact, or one that is closing and opening");
        }
        if (now.branches[relay] >= MOST_BRANCHES) {
            throw new IllegalStateException("the relay has 4 branches");
        }
        save();
        return now.addBranch(relay, closing, opening);
    }

    public int strip(int relay) throws IndexOutOfBoundsException {
        if (!now.hasRelay(relay)) {
            throw new IndexOutOfBoundsException("no such relay");
        }
        save();
        return now.dropBranches(relay);
    }

    public int delay(int relay, int pull, int drop) throws IndexOutOfBoundsException, IllegalArgumentException {
        if (!now.hasRelay(relay)) {
            throw new IndexOutOfBoundsException("no such relay");
        }
        if (!isTime(pull) || !isTime(drop)) {
            throw new IllegalArgumentException("a time is not 0 to 9");
        }
        save();
        int before = now.pull[relay];
        now.pull[relay] = pull;
        now.drop[relay] = drop;
        return before;
    }

    // ---- running

    public int press(int input) throws IllegalArgumentException {
        if (input < 0 || input >= INPUTS) {
            throw new IllegalArgumentException("no such input");
        }
        save();
        now.inputs ^= 1 << input;
        return Integer.bitCount(now.restless());
    }

    public int run(int ticks) throws IllegalArgumentException {
        if (ticks < 1 || ticks > MOST_TICKS_OF_RUN) {
            throw new IllegalArgumentException("ticks are not 1 to 99");
        }
        save();
        int changesBefore = now.changes;
        for (int i = 0; i < ticks; i++) {
            now.tick();
        }
        return now.changes - changesBefore;
    }

    public int settle() throws IllegalStateException {
        trial.copyFrom(now);
        int ticks = trial.ticksToQuiet();
        if (ticks == NONE) {
            throw new IllegalStateException("not quiet within 200 ticks");
        }
        save();
        now.copyFrom(trial);
        return ticks;
    }

    public int reset() {
        save();
        int wereUp = Integer.bitCount(now.up());
        now.motion = 0;
        return wereUp;
    }

    // ---- texts

    public int append(int code) throws IllegalArgumentException, IllegalStateException {
        if (code < FIRST_SIGN || code > LAST_SIGN) {
            throw new IllegalArgumentException("the code is not 33 to 126");
        }
        if (length >= MOST_SIGNS) {
            throw new IllegalStateException("the buffer has 60 characters");
        }
        signs[length] = code;
        length++;
        return length;
    }

    public int clearBuffer() {
        int before = length;
        length = 0;
        return before;
    }

    public int firstError() {
        reader.begin();
        for (int i = 0; i < length; i++) {
            if (!reader.take(signs[i])) {
                return i;
            }
        }
        return length;
    }

    public int draw() throws IllegalArgumentException {
        if (!isCompleteText()) {
            throw new IllegalArgumentException("the buffer is not a complete ladder");
        }
        save();
        int done = doOrders();
        length = 0;
        return done;
    }

    public int undo() throws IllegalStateException {
        if (savedCount < 1) {
            throw new IllegalStateException("there is no saved state");
        }
        savedCount--;
        now.copyFrom(saved[savedCount]);
        forgetAnswers();
        return savedCount;
    }

    // ---- looks; nothing is changed

    public int relay(int relay, int what) throws IndexOutOfBoundsException, IllegalArgumentException {
        if (!now.hasRelay(relay)) {
            throw new IndexOutOfBoundsException("no such relay");
        }
        if (what < 0 || what >= PROPERTIES) {
            throw new IllegalArgumentException("what is not 0 to 8");
        }
        return propertyOf(relay, what);
    }

    public int contacts(int relay, int branch, int what) throws IndexOutOfBoundsException, IllegalArgumentException {
        if (!now.hasRelay(relay) || branch < 0 || branch >= now.branches[relay]) {
            throw new IndexOutOfBoundsException("no such relay or branch");
        }
        if (what < 0 || what >= CONTACT_ANSWERS) {
            throw new IllegalArgumentException("what is not 0 to 3");
        }
        return contactAnswer(relay, branch, what);
    }

    public int count(int what) throws IllegalArgumentException {
        if (what < 0 || what >= NUMBERS) {
            throw new IllegalArgumentException("what is not 0 to 9");
        }
        return numberOf(what);
    }

    // ---- what would be; nothing is changed

    public int leads(int inputs, int what) throws IllegalArgumentException {
        if (inputs < 0 || inputs > ALL_INPUTS || what < 0 || what >= LEAD_ANSWERS) {
            throw new IllegalArgumentException("inputs are not 0 to 15, or what is not 0 to 1");
        }
        return leadAnswer(inputs, what);
    }

    public int race(int what) throws IllegalArgumentException {
        if (what < 0 || what >= RACE_ANSWERS) {
            throw new IllegalArgumentException("what is not 0 to 4");
        }
        findRace();
        return raceAnswers[what];
    }

    public int cure(int what) throws IllegalArgumentException {
        if (what < 0 || what >= CURE_ANSWERS) {
            throw new IllegalArgumentException("what is not 0 to 2");
        }
        findCure();
        return cureAnswers[what];
    }

    public int holding() {
        int upThen = leadAnswer(0, 0);
        return upThen == NONE ? 0 : now.up() & upThen;
    }

    public int idle(int relay) throws IndexOutOfBoundsException {
        if (!now.hasRelay(relay)) {
            throw new IndexOutOfBoundsException("no such relay");
        }
        return now.idleBranch(relay);
    }

    public double quietShare() {
        if (now.relays <= 0) {
            return 1.0;
        }
        int content = now.relays - Integer.bitCount(now.restless());
        return (double) content / (double) now.relays;
    }

    public long digest() {
        long hash = FIRST_HASH;
        for (int what = 0; what < NUMBERS; what++) {
            hash = 31L * hash + numberOf(what);
        }
        for (int relay = 0; relay < now.relays; relay++) {
            hash = hashOfRelay(hash, relay);
        }
        hash = hashOfLeads(hash);
        hash = hashOfRace(hash);
        hash = 31L * hash + holding();
        hash = 31L * hash + bitsOf(quietShare());
        hash = 31L * hash + length;
        for (int i = 0; i < length; i++) {
            hash = 31L * hash + signs[i];
        }
        return hash;
    }

    // ---- inside

    private static boolean isTime(int time) {
        return time >= 0 && time <= LONGEST_TIME;
    }

    /** Saves the state; every call that is undoable comes here before it changes anything. */
    private void save() {
        if (savedCount >= MOST_SAVED) {
            dropOldestSaved();
        }
        saved[savedCount].copyFrom(now);
        savedCount++;
        forgetAnswers();
    }

    private void dropOldestSaved() {
        Ladder oldest = saved[0];
        for (int i = 1; i < MOST_SAVED; i++) {
            saved[i - 1] = saved[i];
        }
        // the oldest one's room is used again, so that no call makes objects
        saved[MOST_SAVED - 1] = oldest;
        savedCount = MOST_SAVED - 1;
    }

    private void forgetAnswers() {
        raceKnown = false;
        cureKnown = false;
    }

    private boolean isCompleteText() {
        return firstError() == length && reader.mayEnd();
    }

    /** Does the orders of a complete text and returns how many it did. */
    private int doOrders() {
        int done = 0;
        reader.begin();
        for (int i = 0; i < length; i++) {
            if (signs[i] == ';') {
                if (!doOrder()) {
                    return done;
                }
                done++;
            }
            reader.take(signs[i]);
        }
        return doOrder() ? done + 1 : done;
    }

    /** Does the order that has been read; false if it names a relay that there is not. */
    private boolean doOrder() {
        int owner = reader.owner;
        if (!now.hasRelay(owner)) {
            return false;
        }
        if (reader.kind == Reader.PULLING) {
            now.pull[owner] = reader.time;
            return true;
        }
        if (reader.kind == Reader.DROPPING) {
            now.drop[owner] = reader.time;
            return true;
        }
        return doRung(owner);
    }

    private boolean doRung(int owner) {
        for (int i = 0; i < reader.branches; i++) {
            if (!now.hasContacts(reader.closing[i] | reader.opening[i])) {
                return false;
            }
        }
        now.dropBranches(owner);
        for (int i = 0; i < reader.branches; i++) {
            now.addBranch(owner, reader.closing[i], reader.opening[i]);
        }
        return true;
    }

    private int propertyOf(int relay, int what) {
        switch (what) {
            case 0:
                return (now.up() >> relay) & 1;
            case 1:
                return (now.called() >> relay) & 1;
            case 2:
                return Ladder.countIn(now.motion, relay);
            case 3:
                return now.pull[relay];
            case 4:
                return now.drop[relay];
            case 5:
                return now.branches[relay];
            case 6:
                return now.holdsItself(relay) ? 1 : 0;
            case 7:
                return now.changed[relay];
            default:
                return now.ticksUntilDue(relay);
        }
    }

    private int contactAnswer(int relay, int branch, int what) {
        int place = Ladder.placeOf(relay, branch);
        switch (what) {
            case 0:
                return now.closing[place];
            case 1:
                return now.opening[place];
            case 2:
                return now.contactsAgainst(place, now.signals()) == 0 ? 1 : 0;
            default:
                return Integer.bitCount(now.contactsAgainst(place, now.signals()));
        }
    }

    private int numberOf(int what) {
        switch (what) {
            case 0:
                return now.relays;
            case 1:
                return now.up();
            case 2:
                return now.called();
            case 3:
                return Integer.bitCount(now.restless());
            case 4:
                return now.inputs;
            case 5:
                return now.allBranches();
            case 6:
                return now.allContacts();
            case 7:
                return now.ticks;
            case 8:
                return now.changes;
            default:
                return savedCount;
        }
    }

    private int leadAnswer(int inputs, int what) {
        trial.copyFrom(now);
        trial.inputs = inputs;
        int ticks = trial.ticksToQuiet();
        if (ticks == NONE) {
            return NONE;
        }
        return what == 0 ? trial.up() : ticks;
    }

    private void findRace() {
        if (raceKnown) {
            return;
        }
        ways.lookFrom(now);
        Arrays.fill(raceAnswers, NONE);
        if (ways.told) {
            raceAnswers[0] = ways.unlikeRests();
            raceAnswers[1] = ways.leastRest();
            raceAnswers[2] = ways.greatestRest();
            raceAnswers[3] = ways.wheel ? 1 : 0;
            raceAnswers[4] = ways.states;
        }
        raceKnown = true;
    }

    private void findCure() {
        if (cureKnown) {
            return;
        }
        findRace();
        Arrays.fill(cureAnswers, NONE);
        cureKnown = true;
        boolean sound = raceAnswers[0] == 1 && raceAnswers[3] == 0;
        if (raceAnswers[0] == NONE || sound) {
            return;
        }
        trial.copyFrom(now);
        for (int amount = 1; amount <= LONGEST_TIME; amount++) {
            for (int relay = 0; relay < trial.relays; relay++) {
                boolean pulling = cures(trial.pull, relay, amount);
                if (pulling || cures(trial.drop, relay, amount)) {
                    cureAnswers[0] = amount;
                    cureAnswers[1] = relay;
                    cureAnswers[2] = pulling ? 0 : 1;
                    return;
                }
            }
        }
    }

    /** Whether the trial comes to just one rest by all ways if the relay's time in these times is longer. */
    private boolean cures(int[] times, int relay, int amount) {
        int before = times[relay];
        if (before + amount > LONGEST_TIME) {
            return false;
        }
        times[relay] = before + amount;
        ways.lookFrom(trial);
        times[relay] = before;
        return ways.told && ways.unlikeRests() == 1 && !ways.wheel;
    }

    private long hashOfRelay(long start, int relay) {
        long hash = start;
        for (int what = 0; what < PROPERTIES; what++) {
            hash = 31L * hash + propertyOf(relay, what);
        }
        for (int branch = 0; branch < now.branches[relay]; branch++) {
            for (int what = 0; what < CONTACT_ANSWERS; what++) {
                hash = 31L * hash + contactAnswer(relay, branch, what);
            }
        }
        return 31L * hash + now.idleBranch(relay);
    }

    private long hashOfLeads(long start) {
        long hash = start;
        for (int i = 0; i < HASHED_INPUTS.length; i++) {
            for (int what = 0; what < LEAD_ANSWERS; what++) {
                hash = 31L * hash + leadAnswer(HASHED_INPUTS[i], what);
            }
        }
        return hash;
    }

    private long hashOfRace(long start) {
        long hash = start;
        findRace();
        for (int what = 0; what < RACE_ANSWERS; what++) {
            hash = 31L * hash + raceAnswers[what];
        }
        findCure();
        for (int what = 0; what < CURE_ANSWERS; what++) {
            hash = 31L * hash + cureAnswers[what];
        }
        return hash;
    }

    /** The bits of a share of 0 to 1, made by hand since Double is outside the part of Java kept to. */
    private static long bitsOf(double share) {
        if (share <= 0.0) {
            return 0L;
        }
        double lead = share;
        long exponent = 1023L;
        while (lead < 1.0 && exponent > 1L) {
            lead = lead * 2.0;
            exponent--;
        }
        return (exponent << 52) + (long) ((lead - 1.0) * 4503599627370496.0);
    }

    /** The ladder as it is drawn and as far as it has run: all that undo brings back. */
    private static final class Ladder {
        private static final int ALL_UP = (1 << MOST_RELAYS) - 1;
        private static final int COUNT_BITS = 4;
        private static final int COUNT_MASK = 15;

        int relays;
        final int[] branches = new int[MOST_RELAYS];
        final int[] closing = new int[MOST_RELAYS * MOST_BRANCHES];
        final int[] opening = new int[MOST_RELAYS * MOST_BRANCHES];
        final int[] pull = new int[MOST_RELAYS];
        final int[] drop = new int[MOST_RELAYS];
        final int[] changed = new int[MOST_RELAYS];
        int inputs;
        /** Who is up, in the lowest six bits, and above them all counts, four bits each. */
        int motion;
        int ticks;
        int changes;

        void copyFrom(Ladder other) {
            relays = other.relays;
            System.arraycopy(other.branches, 0, branches, 0, MOST_RELAYS);
            System.arraycopy(other.closing, 0, closing, 0, MOST_RELAYS * MOST_BRANCHES);
            System.arraycopy(other.opening, 0, opening, 0, MOST_RELAYS * MOST_BRANCHES);
            System.arraycopy(other.pull, 0, pull, 0, MOST_RELAYS);
            System.arraycopy(other.drop, 0, drop, 0, MOST_RELAYS);
            System.arraycopy(other.changed, 0, changed, 0, MOST_RELAYS);
            inputs = other.inputs;
            motion = other.motion;
            ticks = other.ticks;
            changes = other.changes;
        }

        boolean hasRelay(int relay) {
            return relay >= 0 && relay < relays;
        }

        /** Whether the mask is in range and names no relay that there is not. */
        boolean hasContacts(int mask) {
            return mask >= 0 && mask < 1 << (INPUTS + relays);
        }

        static boolean isIn(int mask, int bit) {
            return ((mask >> bit) & 1) == 1;
        }

        static int placeOf(int relay, int branch) {
            return relay * MOST_BRANCHES + branch;
        }

        int addRelay(int pullTime, int dropTime) {
            int relay = relays;
            pull[relay] = pullTime;
            drop[relay] = dropTime;
            branches[relay] = 0;
            changed[relay] = 0;
            relays++;
            return relay;
        }

        int addBranch(int relay, int closingMask, int openingMask) {
            int place = placeOf(relay, branches[relay]);
            closing[place] = closingMask;
            opening[place] = openingMask;
            branches[relay]++;
            return branches[relay];
        }

        int dropBranches(int relay) {
            int before = branches[relay];
            branches[relay] = 0;
            return before;
        }

        static int upIn(int motion) {
            return motion & ALL_UP;
        }

        static int countIn(int motion, int relay) {
            return (motion >> (MOST_RELAYS + COUNT_BITS * relay)) & COUNT_MASK;
        }

        private static int withCount(int motion, int relay, int count) {
            int shift = MOST_RELAYS + COUNT_BITS * relay;
            return (motion & ~(COUNT_MASK << shift)) | (count << shift);
        }

        int up() {
            return upIn(motion);
        }

        /** The inputs that are on and the relays that are up, by the bits of contacts. */
        int signals() {
            return inputs | (upIn(motion) << INPUTS);
        }

        /** The contacts of a branch that do not lead. */
        int contactsAgainst(int place, int signals) {
            return (closing[place] & ~signals) | (opening[place] & signals);
        }

        int called() {
            return calledBy(signals());
        }

        /** The relays with a branch none of whose contacts is against the signals. */
        int calledBy(int signals) {
            int mask = 0;
            for (int relay = 0; relay < relays; relay++) {
                for (int branch = 0; branch < branches[relay]; branch++) {
                    int place = relay * MOST_BRANCHES + branch;
                    if ((closing[place] & ~signals) == 0 && (opening[place] & signals) == 0) {
                        mask |= 1 << relay;
                    }
                }
            }
            return mask;
        }

        /** The relays that are not content. */
        int restless() {
            return calledBy(signals()) ^ up();
        }

        /** All counts as a tick makes them ahead of the changes. */
        int counted(int before, int restless) {
            int after = before;
            for (int relay = 0; relay < relays; relay++) {
                int count = 0;
                if (isIn(restless, relay)) {
                    count = Math.min(countIn(before, relay) + 1, HIGHEST_COUNT);
                }
                after = withCount(after, relay, count);
            }
            return after;
        }

        /** The relays that are due by their counts in a tick. */
        int dueIn(int counted, int restless) {
            int mask = 0;
            for (int relay = 0; relay < relays; relay++) {
                if (isIn(restless, relay) && countIn(counted, relay) > timeIn(counted, relay)) {
                    mask |= 1 << relay;
                }
            }
            return mask;
        }

        private int timeIn(int motion, int relay) {
            return ((motion >> relay) & 1) == 1 ? drop[relay] : pull[relay];
        }

        /** The motion after the relays of the mask have changed. */
        int turned(int counted, int mask) {
            int after = counted ^ mask;
            for (int relay = 0; relay < relays; relay++) {
                if (isIn(mask, relay)) {
                    after = withCount(after, relay, 0);
                }
            }
            return after;
        }

        void tick() {
            int restless = restless();
            int counted = counted(motion, restless);
            int due = dueIn(counted, restless);
            motion = turned(counted, due);
            for (int relay = 0; relay < relays; relay++) {
                changed[relay] += (due >> relay) & 1;
            }
            changes += Integer.bitCount(due);
            ticks++;
        }

        /** Lets ticks go by until all is quiet, and returns how many; NONE if it takes too many. */
        int ticksToQuiet() {
            for (int gone = 0; gone <= MOST_TICKS_TO_QUIET; gone++) {
                if (restless() == 0) {
                    return gone;
                }
                tick();
            }
            return NONE;
        }

        boolean holdsItself(int relay) {
            int own = 1 << (INPUTS + relay);
            for (int branch = 0; branch < branches[relay]; branch++) {
                if ((closing[placeOf(relay, branch)] & own) != 0) {
                    return true;
                }
            }
            return false;
        }

        int ticksUntilDue(int relay) {
            if (!isIn(restless(), relay)) {
                return 0;
            }
            return Math.max(1, timeIn(motion, relay) + 1 - countIn(motion, relay));
        }

        int allBranches() {
            int sum = 0;
            for (int relay = 0; relay < relays; relay++) {
                sum += branches[relay];
            }
            return sum;
        }

        int allContacts() {
            int sum = 0;
            for (int relay = 0; relay < relays; relay++) {
                for (int branch = 0; branch < branches[relay]; branch++) {
                    int place = placeOf(relay, branch);
                    sum += Integer.bitCount(closing[place]) + Integer.bitCount(opening[place]);
                }
            }
            return sum;
        }

        /** The lowest branch that leads alone by no signals at all; NONE if there is none. */
        int idleBranch(int relay) {
            int alone = branchesLeadingAlone(relay);
            for (int branch = 0; branch < branches[relay]; branch++) {
                if (!isIn(alone, branch)) {
                    return branch;
                }
            }
            return NONE;
        }

        /** Goes through all signals that the relay's branches ask for, since the others do not matter. */
        private int branchesLeadingAlone(int relay) {
            int asked = contactsOf(relay);
            int alone = 0;
            int signals = 0;
            for (int i = 0; i <= ALL_CONTACTS; i++) {
                int leading = branchesThatLead(relay, signals);
                if (Integer.bitCount(leading) == 1) {
                    alone |= leading;
                }
                signals = (signals - asked) & asked;
                if (signals == 0) {
                    break;
                }
            }
            return alone;
        }

        private int branchesThatLead(int relay, int signals) {
            int mask = 0;
            for (int branch = 0; branch < branches[relay]; branch++) {
                if (contactsAgainst(placeOf(relay, branch), signals) == 0) {
                    mask |= 1 << branch;
                }
            }
            return mask;
        }

        private int contactsOf(int relay) {
            int mask = 0;
            for (int branch = 0; branch < branches[relay]; branch++) {
                int place = placeOf(relay, branch);
                mask |= closing[place] | opening[place];
            }
            return mask;
        }
    }

    /** Reads a ladder as a text sign by sign, and keeps the order that it reads at present. */
    private static final class Reader {
        static final int RUNG = 0;
        static final int PULLING = 1;
        static final int DROPPING = 2;

        // what is read next
        private static final int ORDER = 0;
        private static final int EQUALS = 1;
        private static final int FIRST_CONTACT = 2;
        private static final int OPENING_CONTACT = 3;
        private static final int MORE_CONTACTS = 4;
        private static final int TIMED_RELAY = 5;
        private static final int COLON = 6;
        private static final int TIME = 7;
        private static final int END_OF_TIME = 8;

        private int next;
        int kind;
        int owner;
        int time;
        int branches;
        /** The number of the branch that is read; it is only set behind a test, so it can stand as an index. */
        private int current;
        final int[] closing = new int[MOST_BRANCHES];
        final int[] opening = new int[MOST_BRANCHES];

        void begin() {
            next = ORDER;
        }

        boolean mayEnd() {
            return next == MORE_CONTACTS || next == END_OF_TIME;
        }

        /** Reads one sign more; false if it is a syntax error. */
        boolean take(int sign) {
            switch (next) {
                case ORDER:
                    return takeOrder(sign);
                case EQUALS:
                    return takeMark(sign, '=', FIRST_CONTACT);
                case FIRST_CONTACT:
                    return takeFirstContact(sign);
                case OPENING_CONTACT:
                    return takeContact(sign, opening);
                case MORE_CONTACTS:
                    return takeMore(sign);
                case TIMED_RELAY:
                    return takeOwner(sign, COLON);
                case COLON:
                    return takeMark(sign, ':', TIME);
                case TIME:
                    return takeTime(sign);
                default:
                    return takeMark(sign, ';', ORDER);
            }
        }

        private boolean takeMark(int sign, int mark, int then) {
            if (sign != mark) {
                return false;
            }
            next = then;
            return true;
        }

        private boolean takeOrder(int sign) {
            if (sign == 'u' || sign == 'v') {
                kind = sign == 'u' ? PULLING : DROPPING;
                next = TIMED_RELAY;
                return true;
            }
            kind = RUNG;
            branches = 0;
            return takeOwner(sign, EQUALS);
        }

        private boolean takeOwner(int sign, int then) {
            if (sign < '0' || sign >= '0' + MOST_RELAYS) {
                return false;
            }
            owner = sign - '0';
            next = then;
            return true;
        }

        private boolean takeTime(int sign) {
            if (sign < '0' || sign > '0' + LONGEST_TIME) {
                return false;
            }
            time = sign - '0';
            next = END_OF_TIME;
            return true;
        }

        private boolean takeFirstContact(int sign) {
            if (branches >= MOST_BRANCHES) {
                return false;
            }
            if (sign != '!' && contactOf(sign) == 0) {
                return false;
            }
            current = branches;
            branches++;
            closing[current] = 0;
            opening[current] = 0;
            return takeNot(sign) || takeContact(sign, closing);
        }

        private boolean takeMore(int sign) {
            if (sign == ';') {
                next = ORDER;
                return true;
            }
            if (sign == '+' && branches < MOST_BRANCHES) {
                next = FIRST_CONTACT;
                return true;
            }
            return takeNot(sign) || takeContact(sign, closing);
        }

        /** After all ten contacts of a branch not even the sign of an opening one may follow. */
        private boolean takeNot(int sign) {
            if (sign != '!' || contactsOfBranch() == ALL_CONTACTS) {
                return false;
            }
            next = OPENING_CONTACT;
            return true;
        }

        private boolean takeContact(int sign, int[] masks) {
            int contact = contactOf(sign);
            if (contact == 0 || (contactsOfBranch() & contact) != 0) {
                return false;
            }
            masks[current] |= contact;
            next = MORE_CONTACTS;
            return true;
        }

        private int contactsOfBranch() {
            return closing[current] | opening[current];
        }

        private static int contactOf(int sign) {
            if (sign >= 'a' && sign < 'a' + INPUTS) {
                return 1 << (sign - 'a');
            }
            if (sign >= '0' && sign < '0' + MOST_RELAYS) {
                return 1 << (INPUTS + sign - '0');
            }
            return 0;
        }
    }

    /** Goes all ways from a ladder's state on, and keeps what was found on them. */
    private static final class Ways {
        private static final int MOST_OUTCOMES = MOST_RELAYS + 1;
        private static final int MASKS = 1 << MOST_RELAYS;
        private static final int INT_BITS = 32;
        private static final int SLOT_BITS = 9;
        private static final int SLOTS = 1 << SLOT_BITS;
        private static final int SPREAD = 0x9E3779B1;
        private static final int UNKNOWN = -1;

        /** The states that are met, as motions, in the order in which they were met. */
        private final int[] met = new int[MOST_STATES];
        /** By the hash of a motion, 1 more than its number among those met; 0 where a slot is free. */
        private final int[] slots = new int[SLOTS];
        /** How many outcomes the tick from a state has, and then the numbers of the states that they are. */
        private final int[] outcomes = new int[MOST_STATES];
        private final int[] outcome = new int[MOST_STATES * MOST_OUTCOMES];
        /** How many ways come to a state, less those from states that are taken away. */
        private final int[] arrivals = new int[MOST_STATES];
        private final int[] freed = new int[MOST_STATES];
        /** Who is called, by who is up. */
        private final int[] called = new int[MASKS];
        /** The rests, a bit for each mask of who is up. */
        private long rests;
        int states;
        boolean told;
        boolean wheel;

        void lookFrom(Ladder ladder) {
            Arrays.fill(slots, 0);
            Arrays.fill(called, UNKNOWN);
            rests = 0L;
            states = 0;
            told = true;
            meet(ladder.motion, slotOf(ladder.motion));
            for (int from = 0; told && from < states && from < MOST_STATES; from++) {
                goOn(ladder, from);
            }
            wheel = told && hasWheel();
        }

        private void goOn(Ladder ladder, int from) {
            outcomes[from] = 0;
            int up = Ladder.upIn(met[from]);
            int restless = calledWith(ladder, up) ^ up;
            if (restless == 0) {
                rests |= 1L << up;
                return;
            }
            int counted = ladder.counted(met[from], restless);
            int due = ladder.dueIn(counted, restless);
            goTo(from, ladder.turned(counted, due));
            if (Integer.bitCount(due) < 2) {
                return;
            }
            for (int relay = 0; relay < ladder.relays; relay++) {
                if (Ladder.isIn(due, relay)) {
                    goTo(from, ladder.turned(counted, 1 << relay));
                }
            }
        }

        private int calledWith(Ladder ladder, int up) {
            if (called[up] == UNKNOWN) {
                called[up] = ladder.calledBy(ladder.inputs | (up << INPUTS));
            }
            return called[up];
        }

        /** Notes a way from one state to another, which is met now if it was not before. */
        private void goTo(int from, int motion) {
            int slot = slotOf(motion);
            if (slots[slot] == 0 && !meet(motion, slot)) {
                return;
            }
            if (outcomes[from] < MOST_OUTCOMES) {
                outcome[from * MOST_OUTCOMES + outcomes[from]] = slots[slot] - 1;
                outcomes[from]++;
            }
        }

        /** The slot in which a state stands, or the free one in which it would stand. */
        private int slotOf(int motion) {
            int slot = (motion * SPREAD) >>> (INT_BITS - SLOT_BITS);
            for (int probes = 0; probes < SLOTS && slots[slot] != 0; probes++) {
                if (met[slots[slot] - 1] == motion) {
                    return slot;
                }
                slot = (slot + 1) & (SLOTS - 1);
            }
            return slot;
        }

        /** Puts a state among those met; false if it is one too many. */
        private boolean meet(int motion, int slot) {
            if (states >= MOST_STATES) {
                told = false;
                return false;
            }
            met[states] = motion;
            states++;
            slots[slot] = states;
            return true;
        }

        /** Takes away, one after the other, states that no way comes to any more; any left go round. */
        private boolean hasWheel() {
            countArrivals();
            int found = 0;
            for (int state = 0; state < states; state++) {
                if (arrivals[state] == 0) {
                    freed[found] = state;
                    found++;
                }
            }
            for (int i = 0; i < found && i < states; i++) {
                int from = freed[i];
                for (int k = 0; k < outcomes[from]; k++) {
                    int to = outcome[from * MOST_OUTCOMES + k];
                    arrivals[to]--;
                    if (arrivals[to] == 0 && found < MOST_STATES) {
                        freed[found] = to;
                        found++;
                    }
                }
            }
            return found < states;
        }

        private void countArrivals() {
            Arrays.fill(arrivals, 0);
            for (int from = 0; from < states; from++) {
                for (int k = 0; k < outcomes[from]; k++) {
                    arrivals[outcome[from * MOST_OUTCOMES + k]]++;
                }
            }
        }

        int unlikeRests() {
            return Long.bitCount(rests);
        }

        int leastRest() {
            for (int mask = 0; mask < MASKS; mask++) {
                if (((rests >> mask) & 1L) == 1L) {
                    return mask;
                }
            }
            return NONE;
        }

        int greatestRest() {
            for (int mask = MASKS - 1; mask >= 0; mask--) {
                if (((rests >> mask) & 1L) == 1L) {
                    return mask;
                }
            }
            return NONE;
        }
    }
}
