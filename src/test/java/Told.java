/** All that an object tells, as a text, so that two states can be compared. */
final class Told {
    private Told() {
    }

    /** All but for how many states are saved, and the buffer. */
    static String ofLadder(LadderRelays x) {
        StringBuilder s = new StringBuilder();
        for (int what = 0; what <= 8; what++) {
            s.append(x.count(what)).append(' ');
        }
        for (int relay = 0; relay < x.count(0); relay++) {
            for (int what = 0; what <= 8; what++) {
                s.append(x.relay(relay, what)).append(' ');
            }
            for (int branch = 0; branch < x.relay(relay, 5); branch++) {
                for (int what = 0; what <= 3; what++) {
                    s.append(x.contacts(relay, branch, what)).append(' ');
                }
            }
            s.append(x.idle(relay)).append(' ');
        }
        for (int inputs = 0; inputs < 16; inputs++) {
            s.append(x.leads(inputs, 0)).append(' ').append(x.leads(inputs, 1)).append(' ');
        }
        for (int what = 0; what < 5; what++) {
            s.append(x.race(what)).append(' ');
        }
        for (int what = 0; what < 3; what++) {
            s.append(x.cure(what)).append(' ');
        }
        return s.append(x.holding()).append(' ').append(x.quietShare()).toString();
    }

    static String of(LadderRelays x) {
        return ofLadder(x) + " saved " + x.count(9) + " error " + x.firstError() + " digest " + x.digest();
    }

    /** All, also what its saved states and its buffer hold: they are gone then. */
    static String usingUp(LadderRelays x) {
        StringBuilder s = new StringBuilder(of(x));
        s.append(" length ").append(x.clearBuffer());
        for (int saved = x.count(9); saved > 0; saved--) {
            s.append("\nundo ").append(x.undo()).append(' ').append(of(x));
        }
        return s.append("\nundo ").append(Check.outcome(() -> x.undo())).toString();
    }
}
