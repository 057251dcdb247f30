import java.math.BigInteger;

/** Promise 12: power. */
public final class Promise12Test {
    private static final Due DUE = new Due("Promise 12");
    private static final BigInteger ONE = BigInteger.ONE;
    private static final BigInteger TEN = BigInteger.TEN;
    private static final BigInteger LONGEST = Numbers.LONGEST;

    public static void main(String[] args) {
        DUE.test("1 for e = 0", Promise12Test::noTimes);
        DUE.test("e of 1 and of 1000 are not too few or too many", Promise12Test::leastAndMostTimes);
        DUE.test("NONE, too, when e is not 0 .. 1000", Promise12Test::notSoManyTimes);
        DUE.test("300 digits are not too many, above 0 and below 0", Promise12Test::fits);
        DUE.test("NONE when a number would have 301 digits, above 0 or below 0", Promise12Test::tooLong);
        DUE.test("slots may be the same one", Promise12Test::sameSlot);
        DUE.test("slots taken as they are, whatever calls came before", Promise12Test::afterLongNumbers);
        DUE.test("slots 0 and 15 are slots", Promise12Test::firstAndLastSlot);
        DUE.test("NONE, changing nothing, when there is no such slot", Promise12Test::noSuchSlot);
        DUE.end();
    }

    private static void gives(BigInteger a, int e, BigInteger power) {
        Bench bench = new Bench(DUE).with(2, a);
        bench.holds("power of " + a + ", " + e + " times", bench.desk.power(2, e, 9), 9, power);
    }

    private static void gives(long a, int e, long power) {
        gives(Numbers.of(a), e, Numbers.of(power));
    }

    private static void refuses(BigInteger a, int e) {
        for (int to : new int[] {9, 2}) {
            Bench bench = new Bench(DUE).with(2, a);
            bench.refuses("power of " + a + ", " + e + " times, into slot " + to, bench.desk.power(2, e, to));
        }
    }

    private static void noTimes() {
        gives(0, 0, 1);
        gives(1, 0, 1);
        gives(-1, 0, 1);
        gives(7, 0, 1);
        gives(LONGEST, 0, ONE);
        gives(LONGEST.negate(), 0, ONE);
    }

    private static void leastAndMostTimes() {
        gives(0, 1, 0);
        gives(-7, 1, -7);
        gives(LONGEST, 1, LONGEST);
        gives(LONGEST.negate(), 1, LONGEST.negate());
        gives(0, 1000, 0);
        gives(1, 1000, 1);
        gives(-1, 1000, 1);
        gives(-1, 999, -1);
    }

    /** The powers of 0, 1 and -1 would fit, however many times. */
    private static void notSoManyTimes() {
        for (int e : new int[] {-1, 1001, 1024, Integer.MIN_VALUE, Integer.MAX_VALUE}) {
            refuses(BigInteger.ZERO, e);
            refuses(ONE, e);
            refuses(ONE.negate(), e);
            refuses(TEN, e);
        }
    }

    private static void fits() {
        gives(TEN, 299, Numbers.ten(299));
        gives(TEN.negate(), 299, Numbers.ten(299).negate());
        gives(TEN.negate(), 298, Numbers.ten(298));
        gives(BigInteger.TWO, 996, BigInteger.TWO.pow(996));
        gives(Numbers.of(-2), 995, BigInteger.TWO.pow(995).negate());
        BigInteger root = Numbers.ten(150).subtract(ONE);
        gives(root, 2, root.multiply(root));
        gives(root.negate(), 2, root.multiply(root));
        BigInteger third = Numbers.ten(100).subtract(ONE);
        gives(third.negate(), 3, third.pow(3).negate());
    }

    private static void tooLong() {
        refuses(TEN, 300);
        refuses(TEN.negate(), 300);
        refuses(TEN.negate(), 301);
        refuses(TEN, 1000);
        refuses(BigInteger.TWO, 997);
        refuses(Numbers.of(-2), 997);
        refuses(BigInteger.TWO, 1000);
        refuses(Numbers.ten(150), 2);
        refuses(Numbers.ten(100).negate(), 3);
        refuses(LONGEST, 2);
        refuses(LONGEST.negate(), 3);
        refuses(LONGEST, 1000);
    }

    private static void sameSlot() {
        for (int e : new int[] {0, 1, 2, 5, 10}) {
            Bench bench = new Bench(DUE).with(2, -3);
            bench.holds("power(2, " + e + ", 2) of -3", bench.desk.power(2, e, 2), 2, Numbers.of(-3).pow(e));
        }
    }

    private static void afterLongNumbers() {
        for (int e : new int[] {0, 1, 2, 5, 30}) {
            Bench bench = new Bench(DUE).with(2, -1000).afterLongNumbers();
            bench.holds("power(2, " + e + ", 9) of -1000", bench.desk.power(2, e, 9), 9, Numbers.of(-1000).pow(e));
        }
    }

    private static void firstAndLastSlot() {
        Bench.eachChoice(Bench.END_SLOTS, 2, slots -> {
            Bench bench = new Bench(DUE).with(0, 3).with(15, 5);
            BigInteger power = bench.held(slots[0]).pow(7);
            bench.holds(Bench.named("power of", slots), bench.desk.power(slots[0], 7, slots[1]), slots[1], power);
        });
    }

    private static void noSuchSlot() {
        for (int e : new int[] {-1, 0, 2, 1000, 1001}) {
            Bench.eachWithNoSlot(2, slots -> {
                Bench bench = new Bench(DUE).with(1, 1).with(2, 1);
                bench.refuses(Bench.named("power of", slots), bench.desk.power(slots[0], e, slots[1]));
            });
        }
    }
}
