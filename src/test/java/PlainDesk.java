import java.math.BigInteger;

/** The document's calls done with BigIntegers, to be compared with. */
final class PlainDesk {
    private static final int NONE = -1;

    private final BigInteger[] slots = new BigInteger[16];

    PlainDesk() {
        for (int i = 0; i < slots.length; i++) {
            slots[i] = BigInteger.ZERO;
        }
    }

    /** What Numbers.enter leaves on a desk. */
    void enter(int slot, BigInteger number) {
        slots[14] = Numbers.CHUNK_BASE;
        slots[15] = number.remainder(Numbers.CHUNK_BASE);
        slots[slot] = number;
    }

    private static boolean are(int... named) {
        for (int slot : named) {
            if (slot < 0 || slot > 15) {
                return false;
            }
        }
        return true;
    }

    private boolean isZero(int slot) {
        return slots[slot].signum() == 0;
    }

    private int hold(int to, BigInteger number) {
        if (!Numbers.fits(number)) {
            return NONE;
        }
        slots[to] = number;
        return 1;
    }

    int set(int slot, long v) {
        return are(slot) ? hold(slot, BigInteger.valueOf(v)) : NONE;
    }

    int digit(int slot, int d) {
        if (!are(slot) || d < 0 || d > 9) {
            return NONE;
        }
        return hold(slot, slots[slot].multiply(BigInteger.TEN).add(BigInteger.valueOf(d)));
    }

    int copy(int from, int to) {
        return are(from, to) ? hold(to, slots[from]) : NONE;
    }

    int sum(int a, int b, int to) {
        return are(a, b, to) ? hold(to, slots[a].add(slots[b])) : NONE;
    }

    int less(int a, int b, int to) {
        return are(a, b, to) ? hold(to, slots[a].subtract(slots[b])) : NONE;
    }

    int product(int a, int b, int to) {
        return are(a, b, to) ? hold(to, slots[a].multiply(slots[b])) : NONE;
    }

    int over(int a, int b, int to) {
        return are(a, b, to) && !isZero(b) ? hold(to, slots[a].divide(slots[b])) : NONE;
    }

    int left(int a, int b, int to) {
        return are(a, b, to) && !isZero(b) ? hold(to, slots[a].remainder(slots[b])) : NONE;
    }

    int divisor(int a, int b, int to) {
        return are(a, b, to) ? hold(to, slots[a].gcd(slots[b])) : NONE;
    }

    int root(int a, int to) {
        return are(a, to) && slots[a].signum() >= 0 ? hold(to, slots[a].sqrt()) : NONE;
    }

    int power(int a, int e, int to) {
        return are(a, to) && e >= 0 && e <= 1000 ? hold(to, slots[a].pow(e)) : NONE;
    }

    private int holdLowest(int a, int b, BigInteger upper, BigInteger lower) {
        BigInteger common = upper.gcd(lower);
        if (lower.signum() < 0) {
            common = common.negate();
        }
        BigInteger newA = upper.divide(common);
        BigInteger newB = lower.divide(common);
        if (!Numbers.fits(newA) || !Numbers.fits(newB)) {
            return NONE;
        }
        slots[a] = newA;
        slots[b] = newB;
        return 1;
    }

    int lowest(int a, int b) {
        return are(a, b) && a != b && !isZero(b) ? holdLowest(a, b, slots[a], slots[b]) : NONE;
    }

    int fraction(int a, int b, int c, int d) {
        if (!are(a, b, c, d) || a == b || isZero(b) || isZero(d)) {
            return NONE;
        }
        BigInteger upper = slots[a].multiply(slots[d]).add(slots[c].multiply(slots[b]));
        return holdLowest(a, b, upper, slots[b].multiply(slots[d]));
    }

    int order(int a, int b) {
        return are(a, b) ? 1 + slots[a].compareTo(slots[b]) : NONE;
    }

    int ratio(int a, int b, int c, int d) {
        if (!are(a, b, c, d) || isZero(b) || isZero(d)) {
            return NONE;
        }
        BigInteger difference = slots[a].multiply(slots[d]).subtract(slots[c].multiply(slots[b]));
        return 1 + difference.signum() * slots[b].signum() * slots[d].signum();
    }

    int sign(int slot) {
        return are(slot) ? 1 + slots[slot].signum() : NONE;
    }

    int digits(int slot) {
        return are(slot) ? slots[slot].abs().toString().length() : NONE;
    }

    int digitAt(int slot, int i) {
        if (!are(slot) || i < 0 || i >= digits(slot)) {
            return NONE;
        }
        return slots[slot].abs().toString().charAt(i) - '0';
    }

    long modulo(int slot, long m) {
        if (!are(slot) || m < 1 || m > 1L << 60) {
            return NONE;
        }
        return slots[slot].mod(BigInteger.valueOf(m)).longValue();
    }

    long low(int slot) {
        return are(slot) ? slots[slot].longValue() : 0;
    }
}
