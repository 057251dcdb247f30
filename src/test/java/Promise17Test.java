import java.math.BigInteger;

/** Promise 17: sign. */
public final class Promise17Test {
    private static final Due DUE = new Due("Promise 17");

    public static void main(String[] args) {
        DUE.test("0 when a slot holds a number below 0", Promise17Test::below);
        DUE.test("1 for 0", Promise17Test::zero);
        DUE.test("1 for 0, however it came about", Promise17Test::zeroOfCalls);
        DUE.test("2 above", Promise17Test::above);
        DUE.test("slots 0 and 15 are slots", Promise17Test::firstAndLastSlot);
        DUE.test("NONE when there is none such", Promise17Test::noSuchSlot);
        DUE.end();
    }

    private static void answers(int want, int slot, BigInteger number) {
        Bench bench = new Bench(DUE).with(slot, number);
        bench.answers("sign(" + slot + ") of " + number, want, bench.desk.sign(slot));
    }

    private static void below() {
        answers(0, 6, Numbers.of(-1));
        answers(0, 6, Numbers.of(Long.MIN_VALUE));
        answers(0, 6, BigInteger.TWO.pow(64).negate());
        answers(0, 6, Numbers.LONGEST.negate());
    }

    private static void zero() {
        answers(1, 6, BigInteger.ZERO);
    }

    private static void zeroOfCalls() {
        BigDesk desk = new BigDesk();
        desk.set(0, -7);
        desk.set(1, 7);
        desk.set(2, 8);
        desk.set(3, -7);
        desk.set(5, -1);
        isZero(desk, "sum of -7 and 7", desk.sum(0, 1, 5));
        isZero(desk, "-7 less -7", desk.less(0, 0, 5));
        isZero(desk, "-7 times 0", desk.product(0, 4, 5));
        isZero(desk, "-7 over 8", desk.over(0, 2, 5));
        isZero(desk, "-7 left by 7", desk.left(0, 1, 5));
        isZero(desk, "divisor of 0 and 0", desk.divisor(4, 4, 5));
        isZero(desk, "root of 0", desk.root(4, 5));
        isZero(desk, "power of 0", desk.power(4, 3, 5));
        desk.set(5, 0);
        isZero(desk, "0 over -7 in lowest terms", desk.lowest(5, 0));
        desk.set(0, -1);
        isZero(desk, "-1 over -1 and 7 over -7", desk.fraction(5, 0, 1, 3));
        desk.set(5, 0);
        isZero(desk, "digit 0 behind 0", desk.digit(5, 0));
    }

    /** Slot 5 holds -1 again behind it, so that the next call can't find its 0 there. */
    private static void isZero(BigDesk desk, String what, int got) {
        DUE.is(what, 1, got);
        DUE.is("sign of " + what, 1, desk.sign(5));
        DUE.is("order of " + what + " and 0", 1, desk.order(5, 4));
        DUE.is("root of " + what, 1, desk.root(5, 6));
        desk.set(5, -1);
    }

    private static void above() {
        answers(2, 6, BigInteger.ONE);
        answers(2, 6, Numbers.of(Long.MAX_VALUE));
        answers(2, 6, BigInteger.TWO.pow(64));
        answers(2, 6, Numbers.LONGEST);
    }

    private static void firstAndLastSlot() {
        for (int slot : Bench.END_SLOTS) {
            answers(0, slot, Numbers.of(-1));
            answers(1, slot, BigInteger.ZERO);
            answers(2, slot, BigInteger.ONE);
        }
    }

    private static void noSuchSlot() {
        for (int slot : Bench.NO_SLOTS) {
            Bench bench = new Bench(DUE);
            bench.refuses("sign(" + slot + ")", bench.desk.sign(slot));
        }
    }
}
