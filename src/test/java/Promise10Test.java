import java.math.BigInteger;

/** Promise 10: divisor. */
public final class Promise10Test {
    private static final Due DUE = new Due("Promise 10");
    private static final TwoIntoOne DIVISOR = new TwoIntoOne(DUE, "divisor", BigDesk::divisor, BigInteger::gcd);
    private static final BigInteger ZERO = BigInteger.ZERO;
    private static final BigInteger ONE = BigInteger.ONE;
    private static final BigInteger LONGEST = Numbers.LONGEST;

    public static void main(String[] args) {
        DUE.test("0 when both are 0", Promise10Test::bothZero);
        DUE.test("when one is 0, the other one divides both", Promise10Test::oneZero);
        DUE.test("the greatest one, also of numbers below 0", Promise10Test::greatest);
        DUE.test("300 digits are not too many", Promise10Test::fits);
        DUE.test("slots may be the same one, each taken as it is before the call", DIVISOR::sameSlots);
        DUE.test("slots taken as they are, whatever calls came before", DIVISOR::afterLongNumbers);
        DUE.test("slots 0 and 15 are slots", DIVISOR::firstAndLastSlot);
        DUE.test("NONE, changing nothing, when there is no such slot", DIVISOR::noSuchSlot);
        DUE.end();
    }

    private static void bothZero() {
        DIVISOR.gives(0, 0, 0);
        Bench bench = new Bench(DUE).with(4, 0);
        bench.holds("divisor(4, 4, 9) of 0", bench.desk.divisor(4, 4, 9), 9, 0);
        bench.holds("divisor(4, 4, 4) of 0", bench.desk.divisor(4, 4, 4), 4, 0);
    }

    private static void oneZero() {
        DIVISOR.gives(0, 7, 7);
        DIVISOR.gives(7, 0, 7);
        DIVISOR.gives(0, -7, 7);
        DIVISOR.gives(-7, 0, 7);
        DIVISOR.gives(0, 1, 1);
        DIVISOR.gives(-1, 0, 1);
    }

    private static void greatest() {
        DIVISOR.gives(12, 18, 6);
        DIVISOR.gives(-12, 18, 6);
        DIVISOR.gives(12, -18, 6);
        DIVISOR.gives(-12, -18, 6);
        DIVISOR.gives(-6, -6, 6);
        DIVISOR.gives(6, 12, 6);
        DIVISOR.gives(1, -999999, 1);
        BigInteger least = Numbers.of(Long.MIN_VALUE);
        DIVISOR.gives(least, least, BigInteger.TWO.pow(63));
    }

    private static void fits() {
        DIVISOR.gives(LONGEST, LONGEST, LONGEST);
        DIVISOR.gives(LONGEST.negate(), LONGEST.negate(), LONGEST);
        DIVISOR.gives(ZERO, LONGEST.negate(), LONGEST);
        DIVISOR.gives(LONGEST.negate(), ZERO, LONGEST);
        DIVISOR.gives(LONGEST, LONGEST.subtract(ONE), ONE);
        DIVISOR.gives(Numbers.ten(299), BigInteger.TWO.pow(996), BigInteger.TWO.pow(299));
    }
}
