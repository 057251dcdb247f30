import java.math.BigInteger;

/**
 * All promises together: runs of at most 512 calls each, the same ones every time, on a desk and on one
 * made of BigIntegers. A first argument says how many runs.
 */
public final class MixedRunsTest {
    private static final Due DUE = new Due("MixedRunsTest");
    private static final int MOST_CALLS = 512;
    private static final int CALLS_AT_THE_END = 32;
    private static final int CALLS_A_STEP = 60;
    // A prime: with the low 64 bits it leaves hardly a wrong number unseen, for two calls.
    private static final long PROBE = 1152921504606846883L;

    private final BigDesk desk = new BigDesk();
    private final PlainDesk plain = new PlainDesk();
    private final int run;
    private long state;
    private int calls = 0;

    private MixedRunsTest(int run) {
        this.run = run;
        state = run * 0x9E3779B97F4A7C15L + 1;
    }

    public static void main(String[] args) {
        int runs = args.length > 0 ? Integer.parseInt(args[0]) : 600;
        for (int i = 0; i < runs; i++) {
            new MixedRunsTest(i).go();
        }
        DUE.end();
    }

    private void go() {
        while (calls < MOST_CALLS - CALLS_AT_THE_END - CALLS_A_STEP) {
            int kind = below(100);
            if (kind < 4) {
                enterShaped(below(14));
            } else if (kind < 30) {
                enterShort();
            } else {
                call();
            }
        }
        for (int slot = 0; slot < 16; slot++) {
            probe(slot);
        }
        DUE.is("at most 512 calls", true, calls <= MOST_CALLS);
    }

    private long next() {
        state += 0x9E3779B97F4A7C15L;
        long z = (state ^ (state >>> 30)) * 0xBF58476D1CE4E5B9L;
        z = (z ^ (z >>> 27)) * 0x94D049BB133111EBL;
        return z ^ (z >>> 31);
    }

    private int below(int n) {
        return (int) Math.floorMod(next(), (long) n);
    }

    /** Mostly a slot, and seldom none. */
    private int slot() {
        int pick = below(200);
        return pick == 0 ? -1 : pick == 1 ? 16 : pick == 2 ? Integer.MIN_VALUE : below(16);
    }

    private void due(String call, long want, long got) {
        calls++;
        DUE.is("run " + run + ", call " + calls + ": " + call, want, got);
    }

    private void probe(int slot) {
        if (slot < 0 || slot > 15) {
            return;
        }
        due("low(" + slot + ")", plain.low(slot), desk.low(slot));
        due("modulo(" + slot + ", PROBE)", plain.modulo(slot, PROBE), desk.modulo(slot, PROBE));
    }

    private void enterShort() {
        int slot = slot();
        long v = next() >> below(64);
        due("set(" + slot + ", " + v + ")", plain.set(slot, v), desk.set(slot, v));
        int e = below(4) == 0 ? below(1003) - 1 : below(17);
        int to = slot();
        due("power(" + slot + ", " + e + ", " + to + ")", plain.power(slot, e, to), desk.power(slot, e, to));
        probe(to);
    }

    private void enterShaped(int slot) {
        BigInteger number = shaped();
        calls += Numbers.enter(desk, slot, number);
        plain.enter(slot, number);
        probe(slot);
    }

    /** Groups of digits that are all alike or at an edge, at most 300 digits in all. */
    private BigInteger shaped() {
        String[] groups = {"000000", "999999", "000001", "999998", "500000", "499999", "100000"};
        StringBuilder text = new StringBuilder(below(2) == 0 ? "-" : "");
        String[] tops = {"1", "2", "9", "10", "99", "999999", "100000", "500000", "333333"};
        text.append(tops[below(tops.length)]);
        int count = below(3) == 0 ? 49 : below(50);
        boolean odd = below(2) == 0;
        for (int i = 0; i < count; i++) {
            boolean any = odd && below(3) != 0;
            text.append(any ? String.format("%06d", below(1000000)) : groups[below(groups.length)]);
        }
        return new BigInteger(text.toString());
    }

    private void call() {
        int a = slot();
        int b = slot();
        int c = slot();
        int d = slot();
        String names = "(" + a + ", " + b + ", " + c + ", " + d + ")";
        switch (below(24)) {
            case 0, 1 -> due("sum" + names, plain.sum(a, b, c), desk.sum(a, b, c));
            case 2, 3 -> due("less" + names, plain.less(a, b, c), desk.less(a, b, c));
            case 4, 5 -> due("product" + names, plain.product(a, b, c), desk.product(a, b, c));
            case 6, 7 -> due("over" + names, plain.over(a, b, c), desk.over(a, b, c));
            case 8, 9 -> due("left" + names, plain.left(a, b, c), desk.left(a, b, c));
            case 10 -> due("divisor" + names, plain.divisor(a, b, c), desk.divisor(a, b, c));
            case 11 -> due("root" + names, plain.root(a, c), desk.root(a, c));
            case 12 -> due("copy" + names, plain.copy(a, c), desk.copy(a, c));
            case 13 -> digits(a);
            case 14 -> due("lowest" + names, plain.lowest(a, b), desk.lowest(a, b));
            case 15, 16, 17 -> due("fraction" + names, plain.fraction(a, b, c, d), desk.fraction(a, b, c, d));
            case 18 -> due("order" + names, plain.order(a, b), desk.order(a, b));
            case 19, 20 -> due("ratio" + names, plain.ratio(a, b, c, d), desk.ratio(a, b, c, d));
            case 21 -> due("sign" + names, plain.sign(a), desk.sign(a));
            case 22 -> look(a);
            default -> modulo(a);
        }
        probe(a);
        probe(b);
        probe(c);
    }

    private void digits(int slot) {
        for (int i = below(12); i >= 0; i--) {
            int d = below(50) == 0 ? below(30) - 10 : below(10);
            due("digit(" + slot + ", " + d + ")", plain.digit(slot, d), desk.digit(slot, d));
        }
    }

    private void look(int slot) {
        due("digits(" + slot + ")", plain.digits(slot), desk.digits(slot));
        for (int k = 0; k < 8; k++) {
            int i = below(2) == 0 ? below(302) - 1 : below(plain.digits(slot) + 2) - 1;
            due("digitAt(" + slot + ", " + i + ")", plain.digitAt(slot, i), desk.digitAt(slot, i));
        }
    }

    private void modulo(int slot) {
        long m = below(2) == 0 ? next() >> below(64) : (1L << 60) + 1 - below(4);
        due("modulo(" + slot + ", " + m + ")", plain.modulo(slot, m), desk.modulo(slot, m));
    }
}
