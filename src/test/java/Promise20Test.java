import java.math.BigInteger;

/** Promise 20: modulo. */
public final class Promise20Test {
    private static final Due DUE = new Due("Promise 20");
    private static final long MOST = 1L << 60;
    private static final BigInteger ONE = BigInteger.ONE;

    public static void main(String[] args) {
        DUE.test("the one of 0 .. m - 1: above 0, next to multiples of m", Promise20Test::above);
        DUE.test("the one of 0 .. m - 1: below 0, next to multiples of m", Promise20Test::below);
        DUE.test("m of 1 and of 2^60 are not too small or too large", Promise20Test::leastAndMost);
        DUE.test("NONE when m is not 1 .. 2^60", Promise20Test::noModulus);
        DUE.test("of the longest numbers", Promise20Test::longest);
        DUE.test("slots 0 and 15 are slots", Promise20Test::firstAndLastSlot);
        DUE.test("NONE when there is no such slot", Promise20Test::noSuchSlot);
        DUE.end();
    }

    private static void answers(long want, int slot, BigInteger number, long m) {
        Bench bench = new Bench(DUE).with(slot, number);
        bench.answers("modulo(" + slot + ", " + m + ") of " + number, want, bench.desk.modulo(slot, m));
    }

    private static void answers(long want, long number, long m) {
        answers(want, 6, Numbers.of(number), m);
    }

    private static void above() {
        answers(0, 0, 7);
        answers(1, 1, 7);
        answers(6, 6, 7);
        answers(0, 7, 7);
        answers(1, 8, 7);
        answers(999999, 999999, 1000000);
        answers(0, 1000000, 1000000);
        answers(7, Long.MAX_VALUE, 10);
    }

    private static void below() {
        answers(6, -1, 7);
        answers(1, -6, 7);
        answers(0, -7, 7);
        answers(6, -8, 7);
        answers(0, -1000000, 1000000);
        answers(1, -999999, 1000000);
        answers(2, Long.MIN_VALUE, 10);
    }

    private static void leastAndMost() {
        for (long number : new long[] {0, 1, -1, 7, Long.MIN_VALUE, Long.MAX_VALUE}) {
            answers(0, number, 1);
        }
        answers(0, 0, MOST);
        answers(1, 1, MOST);
        answers(MOST - 1, -1, MOST);
        answers(MOST - 1, MOST - 1, MOST);
        answers(0, MOST, MOST);
        answers(1, MOST + 1, MOST);
        answers(0, -MOST, MOST);
        answers(MOST - 1, -MOST - 1, MOST);
        answers(1, -MOST + 1, MOST);
        answers(MOST - 1, Long.MAX_VALUE, MOST);
        answers(0, Long.MIN_VALUE, MOST);
        answers(MOST - 2, -1, MOST - 1);
        answers(1, MOST, MOST - 1);
    }

    private static void noModulus() {
        for (long m : new long[] {0, -1, -7, MOST + 1, Long.MIN_VALUE, Long.MAX_VALUE, -MOST}) {
            for (long number : new long[] {0, 1, -1, 12, Long.MIN_VALUE}) {
                answers(-1, number, m);
            }
            answers(-1, 6, Numbers.LONGEST, m);
        }
    }

    private static void longest() {
        for (long m : new long[] {1, 2, 3, 1000000, 999999, 1L << 32, MOST - 1, MOST}) {
            BigInteger by = Numbers.of(m);
            for (BigInteger number : new BigInteger[] {Numbers.LONGEST, Numbers.ten(299).add(ONE)}) {
                answers(number.mod(by).longValue(), 6, number, m);
                answers(number.negate().mod(by).longValue(), 6, number.negate(), m);
                BigInteger multiple = number.subtract(number.mod(by));
                answers(0, 6, multiple, m);
                answers(0, 6, multiple.negate(), m);
                answers(m - 1, 6, multiple.subtract(ONE), m);
            }
        }
    }

    private static void firstAndLastSlot() {
        for (int slot : Bench.END_SLOTS) {
            answers(5, slot, Numbers.of(12), 7);
            answers(2, slot, Numbers.of(-12), 7);
            answers(0, slot, Numbers.of(12), 1);
            answers(12, slot, Numbers.of(12), MOST);
        }
    }

    private static void noSuchSlot() {
        for (int slot : Bench.NO_SLOTS) {
            for (long m : new long[] {0, 1, 7, MOST, MOST + 1}) {
                Bench bench = new Bench(DUE);
                bench.refuses("modulo(" + slot + ", " + m + ")", bench.desk.modulo(slot, m));
            }
        }
    }
}
