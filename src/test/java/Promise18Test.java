import java.math.BigInteger;

/** Promise 18: digits. */
public final class Promise18Test {
    private static final Due DUE = new Due("Promise 18");

    public static void main(String[] args) {
        DUE.test("one for 0", Promise18Test::ofZero);
        DUE.test("how many: at each power of ten and one before it", Promise18Test::atPowersOfTen);
        DUE.test("the same below 0", Promise18Test::below);
        DUE.test("slots 0 and 15 are slots", Promise18Test::firstAndLastSlot);
        DUE.test("NONE when there is none such", Promise18Test::noSuchSlot);
        DUE.end();
    }

    private static void answers(int want, int slot, BigInteger number) {
        Bench bench = new Bench(DUE).with(slot, number);
        bench.answers("digits(" + slot + ") of " + number, want, bench.desk.digits(slot));
    }

    private static void ofZero() {
        answers(1, 6, BigInteger.ZERO);
        Bench bench = new Bench(DUE).with(6, Numbers.LONGEST);
        bench.holds("less(6, 6, 6)", bench.desk.less(6, 6, 6), 6, 0);
        bench.answers("digits(6) of what is left", 1, bench.desk.digits(6));
    }

    private static void atPowersOfTen() {
        for (int e = 0; e < 300; e++) {
            answers(e + 1, 6, Numbers.ten(e));
            answers(e + 1, 6, Numbers.ten(e + 1).subtract(BigInteger.ONE));
        }
    }

    private static void below() {
        for (int e = 0; e < 300; e++) {
            answers(e + 1, 6, Numbers.ten(e).negate());
            answers(e + 1, 6, Numbers.ten(e + 1).subtract(BigInteger.ONE).negate());
        }
        answers(19, 6, Numbers.of(Long.MIN_VALUE));
    }

    private static void firstAndLastSlot() {
        for (int slot : Bench.END_SLOTS) {
            answers(1, slot, BigInteger.ZERO);
            answers(3, slot, Numbers.of(-100));
            answers(300, slot, Numbers.LONGEST);
        }
    }

    private static void noSuchSlot() {
        for (int slot : Bench.NO_SLOTS) {
            Bench bench = new Bench(DUE);
            bench.refuses("digits(" + slot + ")", bench.desk.digits(slot));
        }
    }
}
