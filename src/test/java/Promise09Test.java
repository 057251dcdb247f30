import java.math.BigInteger;

/** Promise 9: left. */
public final class Promise09Test {
    private static final Due DUE = new Due("Promise 9");
    private static final TwoIntoOne LEFT = new TwoIntoOne(DUE, "left", BigDesk::left, BigInteger::remainder);
    private static final BigInteger ONE = BigInteger.ONE;
    private static final BigInteger LONGEST = Numbers.LONGEST;

    public static void main(String[] args) {
        DUE.test("a less b times over(a, b), of both signs", Promise09Test::rests);
        DUE.test("a less b times over(a, b), by the calls themselves", Promise09Test::byTheCalls);
        DUE.test("NONE, too, when b is 0", Promise09Test::leftByZero);
        DUE.test("b next to 0: nothing is left", Promise09Test::leftByOne);
        DUE.test("b next to a, and 300 digits left by 300", Promise09Test::nextToEachOther);
        DUE.test("slots may be the same one, each taken as it is before the call", LEFT::sameSlots);
        DUE.test("slots taken as they are, whatever calls came before", LEFT::afterLongNumbers);
        DUE.test("slots 0 and 15 are slots", LEFT::firstAndLastSlot);
        DUE.test("NONE, changing nothing, when there is no such slot", LEFT::noSuchSlot);
        DUE.end();
    }

    private static void rests() {
        LEFT.gives(7, 2, 1);
        LEFT.gives(-7, 2, -1);
        LEFT.gives(7, -2, 1);
        LEFT.gives(-7, -2, -1);
        LEFT.gives(8, -2, 0);
        LEFT.gives(-8, 2, 0);
        LEFT.gives(-1, 2, -1);
        LEFT.gives(1, -2, 1);
        LEFT.gives(0, -2, 0);
    }

    private static void byTheCalls() {
        BigInteger a = LONGEST.divide(Numbers.of(7));
        BigInteger b = Numbers.ten(120).subtract(Numbers.of(11));
        for (BigInteger upper : new BigInteger[] {a, a.negate()}) {
            for (BigInteger lower : new BigInteger[] {b, b.negate()}) {
                BigDesk desk = new BigDesk();
                Numbers.enter(desk, 1, upper);
                Numbers.enter(desk, 2, lower);
                desk.over(1, 2, 3);
                desk.product(3, 2, 3);
                desk.less(1, 3, 3);
                DUE.is("left(1, 2, 4)", 1, desk.left(1, 2, 4));
                DUE.is("order of the two", 1, desk.order(3, 4));
                DUE.is("low(4)", upper.remainder(lower).longValue(), desk.low(4));
            }
        }
    }

    private static void leftByZero() {
        LEFT.refuses(0, 0);
        LEFT.refuses(7, 0);
        LEFT.refuses(-7, 0);
        LEFT.refuses(LONGEST, BigInteger.ZERO);
        LEFT.refuses(LONGEST.negate(), BigInteger.ZERO);
        Bench bench = new Bench(DUE).with(4, 0);
        bench.refuses("left(4, 4, 4) of 0", bench.desk.left(4, 4, 4));
    }

    private static void leftByOne() {
        for (long b : new long[] {1, -1}) {
            LEFT.gives(0, b, 0);
            LEFT.gives(7, b, 0);
            LEFT.gives(-7, b, 0);
            LEFT.gives(LONGEST, Numbers.of(b), BigInteger.ZERO);
            LEFT.gives(LONGEST.negate(), Numbers.of(b), BigInteger.ZERO);
        }
    }

    private static void nextToEachOther() {
        LEFT.gives(LONGEST, LONGEST, BigInteger.ZERO);
        LEFT.gives(LONGEST.negate(), LONGEST, BigInteger.ZERO);
        LEFT.gives(LONGEST, LONGEST.subtract(ONE), ONE);
        LEFT.gives(LONGEST.negate(), LONGEST.subtract(ONE), ONE.negate());
        LEFT.gives(LONGEST.subtract(ONE), LONGEST, LONGEST.subtract(ONE));
        LEFT.gives(LONGEST.subtract(ONE).negate(), LONGEST.negate(), LONGEST.subtract(ONE).negate());
        LEFT.gives(LONGEST, Numbers.ten(299), Numbers.ten(299).subtract(ONE));
    }
}
