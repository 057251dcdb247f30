import java.math.BigInteger;

/** Promise 6: less. */
public final class Promise06Test {
    private static final Due DUE = new Due("Promise 6");
    private static final TwoIntoOne LESS = new TwoIntoOne(DUE, "less", BigDesk::less, BigInteger::subtract);
    private static final BigInteger ONE = BigInteger.ONE;
    private static final BigInteger LONGEST = Numbers.LONGEST;

    public static void main(String[] args) {
        DUE.test("a slot holds what a has more than b, through 0 and of both signs", Promise06Test::differences);
        DUE.test("300 digits are not too many, above 0 and below 0", Promise06Test::fits);
        DUE.test("NONE when a number would have 301 digits, above 0 or below 0", Promise06Test::tooLong);
        DUE.test("slots may be the same one, each taken as it is before the call", LESS::sameSlots);
        DUE.test("slots taken as they are, whatever calls came before", LESS::afterLongNumbers);
        DUE.test("slots 0 and 15 are slots", LESS::firstAndLastSlot);
        DUE.test("NONE, changing nothing, when there is no such slot", LESS::noSuchSlot);
        DUE.end();
    }

    private static void differences() {
        LESS.gives(0, 0, 0);
        LESS.gives(0, 1, -1);
        LESS.gives(0, -1, 1);
        LESS.gives(1, 1, 0);
        LESS.gives(-1, -1, 0);
        LESS.gives(1, 2, -1);
        LESS.gives(-1, -2, 1);
        LESS.gives(-1, 2, -3);
        LESS.gives(BigInteger.ZERO, Numbers.of(Long.MIN_VALUE), BigInteger.TWO.pow(63));
        LESS.gives(Numbers.of(Long.MIN_VALUE), ONE, BigInteger.TWO.pow(63).add(ONE).negate());
    }

    private static void fits() {
        LESS.gives(LONGEST.subtract(ONE), ONE.negate(), LONGEST);
        LESS.gives(LONGEST, BigInteger.ZERO, LONGEST);
        LESS.gives(LONGEST, ONE, LONGEST.subtract(ONE));
        LESS.gives(LONGEST, LONGEST, BigInteger.ZERO);
        LESS.gives(LONGEST.subtract(ONE).negate(), ONE, LONGEST.negate());
        LESS.gives(BigInteger.ZERO, LONGEST, LONGEST.negate());
        LESS.gives(ONE.negate(), LONGEST.subtract(ONE), LONGEST.negate());
        LESS.gives(LONGEST.negate(), LONGEST.negate(), BigInteger.ZERO);
    }

    private static void tooLong() {
        BigInteger half = Numbers.ten(299).multiply(Numbers.of(5));
        LESS.refuses(LONGEST, ONE.negate());
        LESS.refuses(ONE, LONGEST.negate());
        LESS.refuses(half, half.negate());
        LESS.refuses(LONGEST, LONGEST.negate());
        LESS.refuses(LONGEST.negate(), ONE);
        LESS.refuses(ONE.negate(), LONGEST);
        LESS.refuses(half.negate(), half);
        LESS.refuses(LONGEST.negate(), LONGEST);
    }
}
