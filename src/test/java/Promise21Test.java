import java.math.BigInteger;

/** Promise 21: low. */
public final class Promise21Test {
    private static final Due DUE = new Due("Promise 21");
    private static final BigInteger ONE = BigInteger.ONE;
    private static final BigInteger TWO = BigInteger.TWO;

    public static void main(String[] args) {
        DUE.test("a number that is a long is its own", Promise21Test::ofLongs);
        DUE.test("the wrap-around at 2^63", Promise21Test::aroundHalf);
        DUE.test("a multiple of 2^64, and next to it", Promise21Test::aroundWhole);
        DUE.test("of the longest numbers", Promise21Test::longest);
        DUE.test("slots 0 and 15 are slots", Promise21Test::firstAndLastSlot);
        DUE.test("0 when there is no such slot", Promise21Test::noSuchSlot);
        DUE.end();
    }

    private static void answers(long want, int slot, BigInteger number) {
        Bench bench = new Bench(DUE).with(slot, number);
        bench.answers("low(" + slot + ") of " + number, want, bench.desk.low(slot));
    }

    private static void ofLongs() {
        for (long number : new long[] {0, 1, -1, 999999, 1000000, -1000000, Long.MIN_VALUE, Long.MIN_VALUE + 1,
            Long.MAX_VALUE - 1, Long.MAX_VALUE}) {
            answers(number, 6, Numbers.of(number));
        }
    }

    private static void aroundHalf() {
        answers(Long.MIN_VALUE, 6, TWO.pow(63));
        answers(Long.MIN_VALUE + 1, 6, TWO.pow(63).add(ONE));
        answers(Long.MAX_VALUE, 6, TWO.pow(63).add(ONE).negate());
        answers(Long.MAX_VALUE - 1, 6, TWO.pow(63).add(TWO).negate());
    }

    private static void aroundWhole() {
        for (int e : new int[] {64, 65, 128, 996}) {
            answers(0, 6, TWO.pow(e));
            answers(1, 6, TWO.pow(e).add(ONE));
            answers(-1, 6, TWO.pow(e).subtract(ONE));
            answers(0, 6, TWO.pow(e).negate());
            answers(-1, 6, TWO.pow(e).add(ONE).negate());
            answers(1, 6, TWO.pow(e).subtract(ONE).negate());
        }
    }

    private static void longest() {
        answers(-1, 6, Numbers.LONGEST);
        answers(1, 6, Numbers.LONGEST.negate());
        answers(0, 6, Numbers.ten(299));
        answers(7, 6, Numbers.ten(299).add(Numbers.of(7)));
        BigInteger number = Numbers.LONGEST.divide(Numbers.of(7));
        answers(number.longValue(), 6, number);
        answers(-number.longValue(), 6, number.negate());
    }

    private static void firstAndLastSlot() {
        for (int slot : Bench.END_SLOTS) {
            answers(12, slot, Numbers.of(12));
            answers(Long.MIN_VALUE, slot, Numbers.of(Long.MIN_VALUE));
        }
    }

    private static void noSuchSlot() {
        for (int slot : Bench.NO_SLOTS) {
            Bench bench = new Bench(DUE);
            bench.answers("low(" + slot + ")", 0, bench.desk.low(slot));
        }
    }
}
