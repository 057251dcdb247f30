import java.math.BigInteger;

/** Promise 13: lowest. */
public final class Promise13Test {
    private static final Due DUE = new Due("Promise 13");
    private static final BigInteger ONE = BigInteger.ONE;
    private static final BigInteger LONGEST = Numbers.LONGEST;

    public static void main(String[] args) {
        DUE.test("in lowest terms", Promise13Test::lowestTerms);
        DUE.test("b above 0", Promise13Test::turned);
        DUE.test("0 over anything is 0 over 1", Promise13Test::ofZero);
        DUE.test("NONE, too, when both are one slot", Promise13Test::oneSlot);
        DUE.test("NONE, too, when b is 0", Promise13Test::overZero);
        DUE.test("300 digits are not too many, above 0 and below 0", Promise13Test::fits);
        DUE.test("slots taken as they are, whatever calls came before", Promise13Test::afterLongNumbers);
        DUE.test("slots 0 and 15 are slots", Promise13Test::firstAndLastSlot);
        DUE.test("NONE, changing nothing, when there is no such slot", Promise13Test::noSuchSlot);
        DUE.end();
    }

    private static void gives(BigInteger a, BigInteger b, BigInteger nowA, BigInteger nowB) {
        Bench bench = new Bench(DUE).with(2, a).with(5, b);
        bench.holds("lowest of " + a + " / " + b, bench.desk.lowest(2, 5), 2, nowA, 5, nowB);
    }

    private static void gives(long a, long b, long nowA, long nowB) {
        gives(Numbers.of(a), Numbers.of(b), Numbers.of(nowA), Numbers.of(nowB));
    }

    private static void refuses(int a, int b, BigInteger numberA, BigInteger numberB) {
        Bench bench = new Bench(DUE).with(a, numberA).with(b, numberB);
        bench.refuses(Bench.named("lowest", a, b) + " of " + numberA + " / " + numberB, bench.desk.lowest(a, b));
    }

    private static void lowestTerms() {
        gives(6, 4, 3, 2);
        gives(-6, 4, -3, 2);
        gives(4, 6, 2, 3);
        gives(6, 3, 2, 1);
        gives(6, 6, 1, 1);
        gives(7, 9, 7, 9);
        gives(7, 1, 7, 1);
        gives(1000000, 1000000000000L, 1, 1000000);
    }

    private static void turned() {
        gives(6, -4, -3, 2);
        gives(-6, -4, 3, 2);
        gives(7, -1, -7, 1);
        gives(-7, -1, 7, 1);
        gives(-7, -9, 7, 9);
        BigInteger least = Numbers.of(Long.MIN_VALUE);
        gives(least, least, ONE, ONE);
        gives(ONE, least, ONE.negate(), BigInteger.TWO.pow(63));
        gives(least, ONE.negate(), BigInteger.TWO.pow(63), ONE);
    }

    private static void ofZero() {
        gives(0, 1, 0, 1);
        gives(0, -1, 0, 1);
        gives(0, 7, 0, 1);
        gives(0, -7, 0, 1);
        gives(BigInteger.ZERO, LONGEST.negate(), BigInteger.ZERO, ONE);
        Bench bench = new Bench(DUE).with(2, 0).with(5, -7).with(8, 0);
        bench.holds("lowest of 0 / -7", bench.desk.lowest(2, 5), 2, BigInteger.ZERO, 5, ONE);
        bench.answers("order of it and 0", 1, bench.desk.order(2, 8));
    }

    private static void oneSlot() {
        for (int slot : new int[] {0, 2, 15}) {
            refuses(slot, slot, Numbers.of(7), Numbers.of(7));
            refuses(slot, slot, Numbers.of(-7), Numbers.of(-7));
            refuses(slot, slot, ONE, ONE);
            refuses(slot, slot, BigInteger.ZERO, BigInteger.ZERO);
        }
    }

    private static void overZero() {
        refuses(2, 5, Numbers.of(7), BigInteger.ZERO);
        refuses(2, 5, Numbers.of(-7), BigInteger.ZERO);
        refuses(2, 5, BigInteger.ZERO, BigInteger.ZERO);
        refuses(2, 5, LONGEST, BigInteger.ZERO);
    }

    private static void fits() {
        BigInteger next = LONGEST.subtract(ONE);
        gives(LONGEST, next, LONGEST, next);
        gives(LONGEST, next.negate(), LONGEST.negate(), next);
        gives(LONGEST.negate(), next.negate(), LONGEST, next);
        gives(next.negate(), LONGEST, next.negate(), LONGEST);
        gives(LONGEST, LONGEST.negate(), ONE.negate(), ONE);
        gives(LONGEST, ONE.negate(), LONGEST.negate(), ONE);
        gives(ONE, LONGEST.negate(), ONE.negate(), LONGEST);
    }

    private static void afterLongNumbers() {
        BigInteger ten = Numbers.ten(24);
        Bench bench = new Bench(DUE).with(2, ten).with(5, ten.multiply(Numbers.of(-7))).afterLongNumbers();
        bench.holds("lowest of 10^24 / -7 * 10^24", bench.desk.lowest(2, 5), 2, ONE.negate(), 5, Numbers.of(7));
        bench = new Bench(DUE).with(2, 0).with(5, -7).afterLongNumbers();
        bench.holds("lowest of 0 / -7", bench.desk.lowest(2, 5), 2, BigInteger.ZERO, 5, ONE);
    }

    private static void firstAndLastSlot() {
        Bench bench = new Bench(DUE).with(0, 12).with(15, -18);
        bench.holds("lowest(0, 15)", bench.desk.lowest(0, 15), 0, Numbers.of(-2), 15, Numbers.of(3));
        bench.holds("lowest(15, 0)", bench.desk.lowest(15, 0), 15, Numbers.of(-3), 0, Numbers.of(2));
    }

    private static void noSuchSlot() {
        Bench.eachWithNoSlot(2, slots -> {
            Bench bench = new Bench(DUE).with(1, -6).with(2, -4);
            bench.refuses(Bench.named("lowest", slots), bench.desk.lowest(slots[0], slots[1]));
        });
    }
}
