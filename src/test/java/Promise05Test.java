import java.math.BigInteger;

/** Promise 5: sum. */
public final class Promise05Test {
    private static final Due DUE = new Due("Promise 5");
    private static final TwoIntoOne SUM = new TwoIntoOne(DUE, "sum", BigDesk::sum, BigInteger::add);
    private static final BigInteger ONE = BigInteger.ONE;
    private static final BigInteger LONGEST = Numbers.LONGEST;

    public static void main(String[] args) {
        DUE.test("a slot holds a sum, through 0 and of both signs", Promise05Test::sums);
        DUE.test("300 digits are not too many, above 0 and below 0", Promise05Test::fits);
        DUE.test("NONE when a number would have 301 digits, above 0 or below 0", Promise05Test::tooLong);
        DUE.test("slots may be the same one, each taken as it is before the call", SUM::sameSlots);
        DUE.test("slots taken as they are, whatever calls came before", SUM::afterLongNumbers);
        DUE.test("slots 0 and 15 are slots", SUM::firstAndLastSlot);
        DUE.test("NONE, changing nothing, when there is no such slot", SUM::noSuchSlot);
        DUE.end();
    }

    private static void sums() {
        SUM.gives(0, 0, 0);
        SUM.gives(0, -1, -1);
        SUM.gives(-1, 1, 0);
        SUM.gives(-2, 1, -1);
        SUM.gives(2, -1, 1);
        SUM.gives(1, -2, -1);
        SUM.gives(-1, 2, 1);
        SUM.gives(Numbers.of(Long.MIN_VALUE), Numbers.of(Long.MIN_VALUE), BigInteger.TWO.pow(64).negate());
        SUM.gives(Numbers.of(Long.MAX_VALUE), ONE, BigInteger.TWO.pow(63));
    }

    private static void fits() {
        SUM.gives(LONGEST.subtract(ONE), ONE, LONGEST);
        SUM.gives(Numbers.ten(299), LONGEST.subtract(Numbers.ten(299)), LONGEST);
        SUM.gives(LONGEST, BigInteger.ZERO, LONGEST);
        SUM.gives(LONGEST, ONE.negate(), LONGEST.subtract(ONE));
        SUM.gives(LONGEST, LONGEST.negate(), BigInteger.ZERO);
        SUM.gives(LONGEST.subtract(ONE).negate(), ONE.negate(), LONGEST.negate());
        SUM.gives(BigInteger.ZERO, LONGEST.negate(), LONGEST.negate());
        SUM.gives(ONE, LONGEST.negate(), LONGEST.subtract(ONE).negate());
    }

    private static void tooLong() {
        BigInteger half = Numbers.ten(299).multiply(Numbers.of(5));
        SUM.refuses(LONGEST, ONE);
        SUM.refuses(ONE, LONGEST);
        SUM.refuses(half, half);
        SUM.refuses(LONGEST, LONGEST);
        SUM.refuses(LONGEST.negate(), ONE.negate());
        SUM.refuses(half.negate(), half.negate());
        SUM.refuses(LONGEST.negate(), LONGEST.negate());
    }
}
