import java.math.BigInteger;

/** Promise 15: order. */
public final class Promise15Test {
    private static final Due DUE = new Due("Promise 15");
    private static final BigInteger ONE = BigInteger.ONE;
    private static final BigInteger LONGEST = Numbers.LONGEST;

    // From the least number that a slot can hold to the greatest, mostly by steps of one.
    private static final BigInteger[] RISING = {LONGEST.negate(), LONGEST.negate().add(ONE),
        Numbers.ten(299).negate(), Numbers.ten(299).negate().add(ONE), Numbers.of(Long.MIN_VALUE),
        Numbers.of(-1000000), Numbers.of(-999999), Numbers.of(-2), ONE.negate(), BigInteger.ZERO, ONE,
        Numbers.of(2), Numbers.of(999999), Numbers.of(1000000), Numbers.of(Long.MAX_VALUE),
        Numbers.ten(299).subtract(ONE), Numbers.ten(299), LONGEST.subtract(ONE), LONGEST};

    public static void main(String[] args) {
        DUE.test("0 when a is less than b", Promise15Test::lessThan);
        DUE.test("1 when they are the same", Promise15Test::same);
        DUE.test("2 when it is greater", Promise15Test::greater);
        DUE.test("slots may be the same one", Promise15Test::sameSlot);
        DUE.test("slots 0 and 15 are slots", Promise15Test::firstAndLastSlot);
        DUE.test("NONE when there are none such", Promise15Test::noSuchSlot);
        DUE.end();
    }

    private static void answers(int want, BigInteger a, BigInteger b) {
        Bench bench = new Bench(DUE).with(2, a).with(5, b);
        bench.answers("order of " + a + " and " + b, want, bench.desk.order(2, 5));
    }

    private static void lessThan() {
        for (int i = 0; i < RISING.length; i++) {
            for (int j = i + 1; j < RISING.length; j++) {
                answers(0, RISING[i], RISING[j]);
            }
        }
    }

    private static void same() {
        for (BigInteger number : RISING) {
            answers(1, number, number);
        }
        BigDesk desk = new BigDesk();
        desk.set(2, -7);
        desk.product(2, 3, 4);
        DUE.is("order of 0 and -7 times 0", 1, desk.order(3, 4));
        desk.less(2, 2, 4);
        DUE.is("order of 0 and -7 less -7", 1, desk.order(3, 4));
    }

    private static void greater() {
        for (int i = 0; i < RISING.length; i++) {
            for (int j = 0; j < i; j++) {
                answers(2, RISING[i], RISING[j]);
            }
        }
    }

    private static void sameSlot() {
        for (BigInteger number : RISING) {
            Bench bench = new Bench(DUE).with(5, number);
            bench.answers("order(5, 5) of " + number, 1, bench.desk.order(5, 5));
        }
    }

    private static void firstAndLastSlot() {
        Bench bench = new Bench(DUE).with(0, -3).with(15, 4);
        bench.answers("order(0, 15)", 0, bench.desk.order(0, 15));
        bench.answers("order(15, 0)", 2, bench.desk.order(15, 0));
        bench.answers("order(0, 0)", 1, bench.desk.order(0, 0));
        bench.answers("order(15, 15)", 1, bench.desk.order(15, 15));
    }

    private static void noSuchSlot() {
        Bench.eachWithNoSlot(2, slots -> {
            Bench bench = new Bench(DUE);
            bench.refuses(Bench.named("order", slots), bench.desk.order(slots[0], slots[1]));
        });
    }
}
