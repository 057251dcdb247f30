import java.math.BigInteger;

/** Promise 3: digit. */
public final class Promise03Test {
    private static final Due DUE = new Due("Promise 3");
    private static final BigInteger ONE = BigInteger.ONE;

    public static void main(String[] args) {
        DUE.test("ten times what it held, and d more: d of 0 .. 9", Promise03Test::allDigits);
        DUE.test("NONE, too, when d is not 0 .. 9", Promise03Test::noDigit);
        DUE.test("300 digits above 0 are not too many", Promise03Test::fits);
        DUE.test("NONE when a number above 0 would have 301 digits", Promise03Test::tooLong);
        DUE.test("300 digits below 0 are not too many, its sign is none", Promise03Test::fitsBelow);
        DUE.test("NONE when a number below 0 would have 301 digits", Promise03Test::tooLongBelow);
        DUE.test("a slot that takes digits until it is full", Promise03Test::full);
        DUE.test("slots taken as they are, whatever calls came before", Promise03Test::afterLongNumbers);
        DUE.test("slots 0 and 15 are slots", Promise03Test::firstAndLastSlot);
        DUE.test("NONE, changing nothing, when there is no such slot", Promise03Test::noSuchSlot);
        DUE.end();
    }

    private static void holds(int slot, BigInteger before, int d) {
        Bench bench = new Bench(DUE).with(slot, before);
        BigInteger now = before.multiply(BigInteger.TEN).add(Numbers.of(d));
        bench.holds("digit(" + slot + ", " + d + ") of " + before, bench.desk.digit(slot, d), slot, now);
    }

    private static void refuses(BigInteger before, int d) {
        Bench bench = new Bench(DUE).with(6, before);
        bench.refuses("digit(6, " + d + ") of " + before, bench.desk.digit(6, d));
    }

    private static void allDigits() {
        for (long before : new long[] {0, 1, -1, 12, -12, 99999, 100000, -100000, Long.MIN_VALUE, Long.MAX_VALUE}) {
            for (int d = 0; d <= 9; d++) {
                holds(6, Numbers.of(before), d);
            }
        }
    }

    private static void noDigit() {
        for (long before : new long[] {0, 12, -12}) {
            for (int d : new int[] {-1, 10, Integer.MIN_VALUE, Integer.MAX_VALUE}) {
                refuses(Numbers.of(before), d);
            }
        }
    }

    private static void fits() {
        BigInteger longest = Numbers.ten(299).subtract(ONE);
        holds(6, longest, 0);
        holds(6, longest, 9);
        holds(6, Numbers.ten(298), 0);
    }

    private static void tooLong() {
        refuses(Numbers.ten(299), 0);
        refuses(Numbers.ten(299), 9);
        refuses(Numbers.LONGEST, 0);
        refuses(Numbers.LONGEST, 9);
    }

    /** Ten times -10^299 has 301 digits, but with 1 more it has 300 again. */
    private static void fitsBelow() {
        BigInteger longest = Numbers.ten(299).subtract(ONE).negate();
        holds(6, longest, 0);
        holds(6, longest, 9);
        holds(6, Numbers.ten(299).negate(), 1);
        holds(6, Numbers.ten(299).negate(), 9);
    }

    private static void tooLongBelow() {
        refuses(Numbers.ten(299).negate(), 0);
        refuses(Numbers.ten(299).add(ONE).negate(), 9);
        refuses(Numbers.LONGEST.negate(), 0);
        refuses(Numbers.LONGEST.negate(), 9);
    }

    private static void full() {
        BigDesk desk = new BigDesk();
        for (int count = 1; count <= 300; count++) {
            DUE.is("digit " + count, 1, desk.digit(6, 9));
        }
        DUE.is("digit 301", -1, desk.digit(6, 9));
        DUE.is("digits(6)", 300, desk.digits(6));
        DUE.is("low(6)", Numbers.LONGEST.longValue(), desk.low(6));
        DUE.is("modulo(6, 7)", Numbers.LONGEST.mod(Numbers.of(7)).longValue(), desk.modulo(6, 7));
    }

    private static void afterLongNumbers() {
        for (BigInteger before : new BigInteger[] {Numbers.of(-100000), BigInteger.ZERO, Numbers.ten(24)}) {
            Bench bench = new Bench(DUE).with(6, before).afterLongNumbers();
            BigInteger now = before.multiply(BigInteger.TEN).add(Numbers.of(7));
            bench.holds("digit(6, 7) of " + before, bench.desk.digit(6, 7), 6, now);
        }
    }

    private static void firstAndLastSlot() {
        for (int slot : Bench.END_SLOTS) {
            holds(slot, Numbers.of(12), 0);
            holds(slot, Numbers.of(12), 9);
        }
    }

    private static void noSuchSlot() {
        for (int slot : Bench.NO_SLOTS) {
            for (int d : new int[] {-1, 0, 9, 10}) {
                Bench bench = new Bench(DUE);
                bench.refuses("digit(" + slot + ", " + d + ")", bench.desk.digit(slot, d));
            }
        }
    }
}
