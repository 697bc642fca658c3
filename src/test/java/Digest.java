import java.math.BigInteger;
import java.util.ArrayList;
import java.util.List;

/** The hash, as the document lists its values, from what the object itself tells, by numbers without a bound. */
final class Digest {
    private static final BigInteger LONGS = BigInteger.ONE.shiftLeft(64);

    private Digest() {
    }

    static long of(LadderRelays x, String buffer) {
        List<Long> values = new ArrayList<>();
        for (int what = 0; what <= 9; what++) {
            values.add((long) x.count(what));
        }
        for (int relay = 0; relay < x.count(0); relay++) {
            for (int what = 0; what <= 8; what++) {
                values.add((long) x.relay(relay, what));
            }
            for (int branch = 0; branch < x.relay(relay, 5); branch++) {
                for (int what = 0; what <= 3; what++) {
                    values.add((long) x.contacts(relay, branch, what));
                }
            }
            values.add((long) x.idle(relay));
        }
        for (int inputs : new int[] {0, 1, 6, 15}) {
            values.add((long) x.leads(inputs, 0));
            values.add((long) x.leads(inputs, 1));
        }
        for (int what = 0; what <= 4; what++) {
            values.add((long) x.race(what));
        }
        for (int what = 0; what <= 2; what++) {
            values.add((long) x.cure(what));
        }
        values.add((long) x.holding());
        values.add(Double.doubleToLongBits(x.quietShare()));
        values.add((long) buffer.length());
        for (char code : buffer.toCharArray()) {
            values.add((long) code);
        }
        return hash(values);
    }

    static long hash(List<Long> values) {
        BigInteger hash = BigInteger.valueOf(2843);
        for (long value : values) {
            hash = hash.multiply(BigInteger.valueOf(31)).add(BigInteger.valueOf(value));
        }
        return hash.mod(LONGS).longValue();
    }
}
