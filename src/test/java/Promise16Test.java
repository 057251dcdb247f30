import java.math.BigInteger;

/** Promise 16: ratio. */
public final class Promise16Test {
    private static final Due DUE = new Due("Promise 16");
    private static final BigInteger ONE = BigInteger.ONE;
    private static final BigInteger LONGEST = Numbers.LONGEST;

    public static void main(String[] args) {
        DUE.test("0 when a / b is less than c / d", Promise16Test::lessThan);
        DUE.test("1 when they are the same, in lowest terms or not", Promise16Test::same);
        DUE.test("2 when a / b is greater", Promise16Test::greater);
        DUE.test("b or d below 0", Promise16Test::overLessThanZero);
        DUE.test("NONE, too, when b is 0", Promise16Test::firstOverZero);
        DUE.test("NONE, too, when d is 0", Promise16Test::secondOverZero);
        DUE.test("of the longest numbers", Promise16Test::longest);
        DUE.test("slots may be the same one, a and b too", Promise16Test::sameSlots);
        DUE.test("slots taken as they are, whatever calls came before", Promise16Test::afterLongNumbers);
        DUE.test("slots 0 and 15 are slots", Promise16Test::firstAndLastSlot);
        DUE.test("NONE when there are none such", Promise16Test::noSuchSlot);
        DUE.end();
    }

    private static void answers(int want, BigInteger... terms) {
        Bench bench = new Bench(DUE).with(2, terms[0]).with(5, terms[1]).with(8, terms[2]).with(12, terms[3]);
        String call = "ratio of " + terms[0] + " / " + terms[1] + " and " + terms[2] + " / " + terms[3];
        bench.answers(call, want, bench.desk.ratio(2, 5, 8, 12));
    }

    private static void answers(int want, long a, long b, long c, long d) {
        answers(want, Numbers.of(a), Numbers.of(b), Numbers.of(c), Numbers.of(d));
    }

    private static void lessThan() {
        answers(0, 1, 3, 1, 2);
        answers(0, 3, 7, 4, 9);
        answers(0, 0, 5, 1, 9);
        answers(0, -1, 9, 0, 5);
        answers(0, -1, 2, -1, 3);
        answers(0, -1, 2, 1, 2);
    }

    private static void same() {
        answers(1, 1, 2, 2, 4);
        answers(1, -3, 9, -1, 3);
        answers(1, 0, 5, 0, 9);
        answers(1, 7, 1, 7, 1);
        answers(1, LONGEST, LONGEST, ONE, ONE);
    }

    private static void greater() {
        answers(2, 1, 2, 1, 3);
        answers(2, 4, 9, 3, 7);
        answers(2, 1, 9, 0, 5);
        answers(2, 0, 5, -1, 9);
        answers(2, -1, 3, -1, 2);
        answers(2, 1, 2, -1, 2);
    }

    private static void overLessThanZero() {
        answers(0, 1, -2, 1, 3);
        answers(2, 1, 2, 1, -3);
        answers(0, 1, -2, 1, -3);
        answers(2, -1, -2, -1, -3);
        answers(1, 1, -2, -2, 4);
        answers(1, -1, -2, 2, 4);
        answers(1, 1, -2, 2, -4);
        answers(1, 0, -2, 0, 3);
        answers(1, 0, 2, 0, -3);
        answers(0, -7, 2, 0, -3);
        answers(2, 0, -2, 7, -3);
    }

    private static void firstOverZero() {
        answers(-1, 1, 0, 1, 3);
        answers(-1, 0, 0, 0, 3);
        answers(-1, -1, 0, 1, -3);
        answers(-1, 1, 0, 1, 0);
        answers(-1, 0, 0, 0, 0);
    }

    private static void secondOverZero() {
        answers(-1, 1, 3, 1, 0);
        answers(-1, 0, 3, 0, 0);
        answers(-1, -1, 3, 1, 0);
    }

    /** These fractions come next to 1, and next to each other, with 600 digits on the way. */
    private static void longest() {
        BigInteger next = LONGEST.subtract(ONE);
        BigInteger third = LONGEST.subtract(BigInteger.TWO);
        answers(0, LONGEST, next, next, third);
        answers(2, next, third, LONGEST, next);
        answers(2, LONGEST.negate(), next, next.negate(), third);
        answers(0, LONGEST, next.negate(), third, LONGEST);
        answers(1, LONGEST, next.negate(), LONGEST.negate(), next);
        answers(0, LONGEST.negate(), ONE, LONGEST, ONE);
    }

    private static void sameSlots() {
        Bench.eachChoice(new int[] {2, 5, 8}, 4, slots -> {
            goesWell(new Bench(DUE).with(2, -3).with(5, 4).with(8, 11), slots);
        });
    }

    private static void afterLongNumbers() {
        Bench.eachChoice(new int[] {5, 8}, 4, slots -> {
            goesWell(new Bench(DUE).with(5, Numbers.ten(24)).with(8, -1000).afterLongNumbers(), slots);
        });
    }

    private static void firstAndLastSlot() {
        Bench.eachChoice(Bench.END_SLOTS, 4, slots -> goesWell(new Bench(DUE).with(0, -6).with(15, 8), slots));
    }

    private static void goesWell(Bench bench, int... slots) {
        BigInteger b = bench.held(slots[1]);
        BigInteger d = bench.held(slots[3]);
        BigInteger difference = bench.held(slots[0]).multiply(d).subtract(bench.held(slots[2]).multiply(b));
        int want = 1 + difference.signum() * b.signum() * d.signum();
        bench.answers(Bench.named("ratio", slots), want, bench.desk.ratio(slots[0], slots[1], slots[2], slots[3]));
    }

    private static void noSuchSlot() {
        Bench.eachWithNoSlot(4, slots -> {
            Bench bench = new Bench(DUE);
            bench.refuses(Bench.named("ratio", slots), bench.desk.ratio(slots[0], slots[1], slots[2], slots[3]));
        });
    }
}
