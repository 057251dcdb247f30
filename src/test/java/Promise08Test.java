import java.math.BigInteger;

/** Promise 8: over. */
public final class Promise08Test {
    private static final Due DUE = new Due("Promise 8");
    private static final TwoIntoOne OVER = new TwoIntoOne(DUE, "over", BigDesk::over, BigInteger::divide);
    private static final BigInteger ONE = BigInteger.ONE;
    private static final BigInteger LONGEST = Numbers.LONGEST;

    public static void main(String[] args) {
        DUE.test("rounded towards 0", Promise08Test::rounded);
        DUE.test("NONE, too, when b is 0", Promise08Test::overZero);
        DUE.test("b next to 0, and 300 digits that stay", Promise08Test::overOne);
        DUE.test("b next to a, and 300 digits over 300", Promise08Test::nextToEachOther);
        DUE.test("slots may be the same one, each taken as it is before the call", OVER::sameSlots);
        DUE.test("slots taken as they are, whatever calls came before", OVER::afterLongNumbers);
        DUE.test("slots 0 and 15 are slots", OVER::firstAndLastSlot);
        DUE.test("NONE, changing nothing, when there is no such slot", OVER::noSuchSlot);
        DUE.end();
    }

    private static void rounded() {
        OVER.gives(7, 2, 3);
        OVER.gives(-7, 2, -3);
        OVER.gives(7, -2, -3);
        OVER.gives(-7, -2, 3);
        OVER.gives(8, -2, -4);
        OVER.gives(-8, -2, 4);
        OVER.gives(-1, 2, 0);
        OVER.gives(1, -2, 0);
        OVER.gives(0, -2, 0);
        BigInteger third = Numbers.ten(299).divide(Numbers.of(3));
        OVER.gives(Numbers.ten(299).negate(), Numbers.of(3), third.negate());
        OVER.gives(Numbers.ten(299), third.add(ONE).negate(), Numbers.of(-2));
    }

    private static void overZero() {
        OVER.refuses(0, 0);
        OVER.refuses(7, 0);
        OVER.refuses(-7, 0);
        OVER.refuses(LONGEST, BigInteger.ZERO);
        OVER.refuses(LONGEST.negate(), BigInteger.ZERO);
        Bench bench = new Bench(DUE).with(4, 0);
        bench.refuses("over(4, 4, 4) of 0", bench.desk.over(4, 4, 4));
    }

    private static void overOne() {
        OVER.gives(0, 1, 0);
        OVER.gives(0, -1, 0);
        OVER.gives(7, 1, 7);
        OVER.gives(7, -1, -7);
        OVER.gives(Numbers.of(Long.MIN_VALUE), ONE.negate(), BigInteger.TWO.pow(63));
        OVER.gives(LONGEST, ONE, LONGEST);
        OVER.gives(LONGEST, ONE.negate(), LONGEST.negate());
        OVER.gives(LONGEST.negate(), ONE, LONGEST.negate());
        OVER.gives(LONGEST.negate(), ONE.negate(), LONGEST);
    }

    private static void nextToEachOther() {
        OVER.gives(LONGEST, LONGEST, ONE);
        OVER.gives(LONGEST, LONGEST.negate(), ONE.negate());
        OVER.gives(LONGEST, LONGEST.subtract(ONE), ONE);
        OVER.gives(LONGEST.subtract(ONE), LONGEST, BigInteger.ZERO);
        OVER.gives(LONGEST.subtract(ONE).negate(), LONGEST, BigInteger.ZERO);
        OVER.gives(LONGEST, Numbers.ten(299), Numbers.of(9));
        OVER.gives(Numbers.ten(299), LONGEST, BigInteger.ZERO);
    }
}
