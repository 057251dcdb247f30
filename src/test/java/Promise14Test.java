import java.math.BigInteger;

/** Promise 14: fraction. */
public final class Promise14Test {
    private static final Due DUE = new Due("Promise 14");
    private static final BigInteger ZERO = BigInteger.ZERO;
    private static final BigInteger ONE = BigInteger.ONE;
    private static final BigInteger LONGEST = Numbers.LONGEST;

    public static void main(String[] args) {
        DUE.test("in lowest terms", Promise14Test::lowestTerms);
        DUE.test("b above 0", Promise14Test::turned);
        DUE.test("a sum of 0 is 0 over 1", Promise14Test::sumsOfZero);
        DUE.test("NONE, too, when these two are one slot", Promise14Test::oneSlot);
        DUE.test("NONE, too, when b is 0", Promise14Test::firstOverZero);
        DUE.test("NONE, too, when d is 0", Promise14Test::secondOverZero);
        DUE.test("a of 300 digits is not too long, above 0 and below 0", Promise14Test::upperFits);
        DUE.test("NONE when a would have 301 digits, above 0 or below 0", Promise14Test::upperTooLong);
        DUE.test("b of 300 digits is not too long", Promise14Test::lowerFits);
        DUE.test("NONE when b would have 301 digits", Promise14Test::lowerTooLong);
        DUE.test("more than 300 digits on the way are not held by a slot", Promise14Test::longOnTheWay);
        DUE.test("slots may be the same one, each taken as it is before the call", Promise14Test::sameSlots);
        DUE.test("slots taken as they are, whatever calls came before", Promise14Test::afterLongNumbers);
        DUE.test("slots 0 and 15 are slots", Promise14Test::firstAndLastSlot);
        DUE.test("NONE, changing nothing, when there is no such slot", Promise14Test::noSuchSlot);
        DUE.end();
    }

    private static Bench benchOf(BigInteger... terms) {
        return new Bench(DUE).with(2, terms[0]).with(5, terms[1]).with(8, terms[2]).with(12, terms[3]);
    }

    private static String told(BigInteger... terms) {
        return "fraction of " + terms[0] + " / " + terms[1] + " + " + terms[2] + " / " + terms[3];
    }

    private static void gives(BigInteger nowA, BigInteger nowB, BigInteger... terms) {
        Bench bench = benchOf(terms);
        bench.holds(told(terms), bench.desk.fraction(2, 5, 8, 12), 2, nowA, 5, nowB);
    }

    private static void refuses(BigInteger... terms) {
        Bench bench = benchOf(terms);
        bench.refuses(told(terms), bench.desk.fraction(2, 5, 8, 12));
    }

    private static BigInteger[] wholes(long... terms) {
        BigInteger[] all = new BigInteger[terms.length];
        for (int i = 0; i < terms.length; i++) {
            all[i] = Numbers.of(terms[i]);
        }
        return all;
    }

    private static void gives(long nowA, long nowB, long... terms) {
        gives(Numbers.of(nowA), Numbers.of(nowB), wholes(terms));
    }

    private static void refuses(long... terms) {
        refuses(wholes(terms));
    }

    private static void lowestTerms() {
        gives(5, 6, 1, 2, 1, 3);
        gives(1, 1, 1, 2, 1, 2);
        gives(1, 2, 1, 3, 1, 6);
        gives(5, 2, 10, 4, 0, 9);
        gives(1, 6, 1, 2, -1, 3);
        gives(-19, 12, -3, 4, -5, 6);
    }

    private static void turned() {
        gives(-1, 6, 1, -2, 1, 3);
        gives(1, 6, 1, 2, 1, -3);
        gives(-5, 6, 1, -2, 1, -3);
        gives(5, 6, -1, -2, -1, -3);
        gives(-2, 1, 1, -1, 1, -1);
        BigInteger least = Numbers.of(Long.MIN_VALUE);
        gives(Numbers.of(2), ONE, least, least, least, least);
    }

    private static void sumsOfZero() {
        gives(0, 1, 1, 2, -1, 2);
        gives(0, 1, 1, 2, 1, -2);
        gives(0, 1, -1, 2, -1, -2);
        gives(0, 1, 0, 7, 0, 9);
        gives(0, 1, 0, -7, 0, 9);
        gives(0, 1, 0, -7, 0, -9);
        gives(ZERO, ONE, LONGEST, LONGEST.subtract(ONE), LONGEST, LONGEST.subtract(ONE).negate());
        Bench bench = benchOf(wholes(1, 2, 1, -2)).with(9, 0);
        bench.holds("fraction of 1 / 2 + 1 / -2", bench.desk.fraction(2, 5, 8, 12), 2, ZERO, 5, ONE);
        bench.answers("order of it and 0", 1, bench.desk.order(2, 9));
    }

    private static void oneSlot() {
        Bench.eachChoice(new int[] {0, 7, 15}, 3, slots -> {
            Bench bench = new Bench(DUE).with(0, 1).with(7, -1).with(15, 3);
            int a = slots[0];
            String call = Bench.named("fraction", a, a, slots[1], slots[2]);
            bench.refuses(call, bench.desk.fraction(a, a, slots[1], slots[2]));
        });
    }

    private static void firstOverZero() {
        refuses(1, 0, 1, 3);
        refuses(0, 0, 1, 3);
        refuses(1, 0, 0, 3);
        refuses(1, 0, 1, 0);
        refuses(0, 0, 0, 0);
        refuses(LONGEST, ZERO, ONE, ONE);
    }

    private static void secondOverZero() {
        refuses(1, 3, 1, 0);
        refuses(2, 4, 0, 0);
        refuses(0, -3, 0, 0);
        refuses(ONE, ONE, LONGEST, ZERO);
    }

    private static void upperFits() {
        gives(LONGEST, ONE, LONGEST.subtract(ONE), ONE, ONE, ONE);
        gives(LONGEST.negate(), ONE, LONGEST.subtract(ONE).negate(), ONE, ONE, ONE.negate());
        gives(LONGEST.negate(), ONE, LONGEST.subtract(ONE), ONE.negate(), ONE.negate(), ONE);
        gives(LONGEST, Numbers.of(2), LONGEST.subtract(BigInteger.TWO), Numbers.of(2), ONE, ONE);
        gives(Numbers.ten(299), Numbers.of(3), Numbers.ten(299).subtract(Numbers.of(3)), Numbers.of(3), ONE, ONE);
    }

    private static void upperTooLong() {
        refuses(LONGEST, ONE, ONE, ONE);
        refuses(LONGEST.negate(), ONE, ONE, ONE.negate());
        refuses(LONGEST, ONE.negate(), ONE.negate(), ONE);
        refuses(LONGEST, Numbers.of(2), ONE, ONE);
        refuses(LONGEST, ONE, LONGEST, ONE);
        refuses(LONGEST, ONE, ONE, Numbers.of(7));
    }

    /** 10^150 - 1 and 10^150 + 1 have no common divisor, and their product is 10^300 - 1. */
    private static void lowerFits() {
        BigInteger fewer = Numbers.ten(150).subtract(ONE);
        BigInteger more = Numbers.ten(150).add(ONE);
        gives(fewer.add(more), LONGEST, ONE, fewer, ONE, more);
        gives(BigInteger.TWO, LONGEST, ONE, fewer, ONE, more.negate());
        BigInteger fives = Numbers.of(5).pow(299);
        BigInteger twos = BigInteger.TWO.pow(299);
        gives(fives.add(twos), Numbers.ten(299), ONE, twos, ONE, fives);
    }

    private static void lowerTooLong() {
        BigInteger fives = Numbers.of(5).pow(300);
        BigInteger twos = BigInteger.TWO.pow(300);
        refuses(ONE, twos, ONE, fives);
        refuses(ONE, twos.negate(), ONE, fives);
        refuses(ONE, LONGEST, ONE, LONGEST.subtract(ONE));
        refuses(LONGEST, LONGEST.subtract(ONE), LONGEST.subtract(ONE), LONGEST);
    }

    private static void longOnTheWay() {
        gives(BigInteger.TWO, ONE, LONGEST, LONGEST, LONGEST, LONGEST);
        gives(Numbers.of(-2), ONE, LONGEST, LONGEST.negate(), LONGEST.negate(), LONGEST);
        gives(ONE, ONE, LONGEST.subtract(ONE), LONGEST, ONE, LONGEST);
        BigInteger odd = Numbers.ten(299).add(ONE);
        gives(Numbers.of(4), odd, ONE, odd, Numbers.of(3), odd);
    }

    /** All ways to name four slots out of four, but those where a and b are one. */
    private static void sameSlots() {
        Bench.eachChoice(new int[] {2, 5, 8, 12}, 4, slots -> goesWell(benchOf(wholes(-3, 4, 10, -21)), slots));
    }

    private static void afterLongNumbers() {
        Bench bench = benchOf(wholes(1000000, -3, 7, 1000000)).afterLongNumbers();
        BigInteger upper = Numbers.of(21).subtract(Numbers.ten(12));
        bench.holds("fraction", bench.desk.fraction(2, 5, 8, 12), 2, upper, 5, Numbers.of(3000000));
        bench = benchOf(wholes(1, 2, 1, -2)).afterLongNumbers();
        bench.holds("fraction of 1 / 2 + 1 / -2", bench.desk.fraction(2, 5, 8, 12), 2, ZERO, 5, ONE);
    }

    private static void firstAndLastSlot() {
        Bench.eachChoice(new int[] {0, 15, 9}, 4, slots -> goesWell(new Bench(DUE).with(0, -6).with(15, 8), slots));
    }

    private static void goesWell(Bench bench, int... slots) {
        if (slots[0] == slots[1]) {
            return;
        }
        BigInteger b = bench.held(slots[1]);
        BigInteger d = bench.held(slots[3]);
        BigInteger upper = bench.held(slots[0]).multiply(d).add(bench.held(slots[2]).multiply(b));
        BigInteger lower = b.multiply(d);
        BigInteger common = upper.gcd(lower).multiply(Numbers.of(lower.signum()));
        long got = bench.desk.fraction(slots[0], slots[1], slots[2], slots[3]);
        String call = Bench.named("fraction", slots);
        bench.holds(call, got, slots[0], upper.divide(common), slots[1], lower.divide(common));
    }

    private static void noSuchSlot() {
        Bench.eachWithNoSlot(4, slots -> {
            Bench bench = new Bench(DUE);
            long got = bench.desk.fraction(slots[0], slots[1], slots[2], slots[3]);
            bench.refuses(Bench.named("fraction", slots), got);
        });
    }
}
