import java.math.BigInteger;

/** Promise 19: digitAt. */
public final class Promise19Test {
    private static final Due DUE = new Due("Promise 19");

    public static void main(String[] args) {
        DUE.test("the first one being 0", Promise19Test::first);
        DUE.test("NONE when there is none such: before the first one", Promise19Test::beforeTheFirst);
        DUE.test("the last one, of any length", Promise19Test::last);
        DUE.test("NONE when there is none such: behind the last one", Promise19Test::behindTheLast);
        DUE.test("0 has one digit", Promise19Test::ofZero);
        DUE.test("all digits of 300, above 0 and below 0", Promise19Test::allDigits);
        DUE.test("slots 0 and 15 are slots", Promise19Test::firstAndLastSlot);
        DUE.test("NONE when there is none such: no such slot", Promise19Test::noSuchSlot);
        DUE.end();
    }

    /** Digits 1 .. 9 in turn, no two neighbours alike, so that one too many or too few shows. */
    private static BigInteger ofLength(int length) {
        StringBuilder text = new StringBuilder();
        for (int i = 0; i < length; i++) {
            text.append(1 + i % 9);
        }
        return new BigInteger(text.toString());
    }

    private static void answers(int want, int slot, BigInteger number, int i) {
        Bench bench = new Bench(DUE).with(slot, number);
        bench.answers("digitAt(" + slot + ", " + i + ") of " + number, want, bench.desk.digitAt(slot, i));
    }

    private static void first() {
        answers(1, 6, Numbers.of(12), 0);
        answers(1, 6, Numbers.of(-12), 0);
        answers(9, 6, Numbers.of(Long.MIN_VALUE), 0);
        answers(1, 6, Numbers.ten(299), 0);
        answers(9, 6, Numbers.LONGEST.negate(), 0);
    }

    private static void beforeTheFirst() {
        for (int i : new int[] {-1, -2, -300, Integer.MIN_VALUE}) {
            answers(-1, 6, BigInteger.ZERO, i);
            answers(-1, 6, Numbers.of(12), i);
            answers(-1, 6, Numbers.of(-12), i);
            answers(-1, 6, Numbers.LONGEST, i);
        }
    }

    private static void last() {
        for (int length = 1; length <= 300; length++) {
            answers(1 + (length - 1) % 9, 6, ofLength(length), length - 1);
        }
        answers(8, 6, Numbers.of(Long.MIN_VALUE), 18);
        answers(0, 6, Numbers.ten(299), 299);
    }

    private static void behindTheLast() {
        for (int length = 1; length <= 300; length++) {
            answers(-1, 6, ofLength(length), length);
            answers(-1, 6, ofLength(length).negate(), length);
        }
        answers(-1, 6, Numbers.of(12), 300);
        answers(-1, 6, Numbers.of(12), Integer.MAX_VALUE);
        answers(-1, 6, Numbers.LONGEST, 301);
        answers(-1, 6, Numbers.LONGEST, Integer.MAX_VALUE);
    }

    private static void ofZero() {
        answers(0, 6, BigInteger.ZERO, 0);
        answers(-1, 6, BigInteger.ZERO, 1);
    }

    private static void allDigits() {
        BigInteger number = ofLength(300);
        for (BigInteger each : new BigInteger[] {number, number.negate()}) {
            BigDesk desk = new BigDesk();
            Numbers.enter(desk, 6, each);
            for (int i = 0; i < 300; i++) {
                DUE.is("digitAt(6, " + i + ")", 1 + i % 9, desk.digitAt(6, i));
            }
        }
    }

    private static void firstAndLastSlot() {
        for (int slot : Bench.END_SLOTS) {
            answers(7, slot, Numbers.of(789), 0);
            answers(9, slot, Numbers.of(789), 2);
            answers(-1, slot, Numbers.of(789), 3);
        }
    }

    private static void noSuchSlot() {
        for (int slot : Bench.NO_SLOTS) {
            for (int i : new int[] {-1, 0, 1}) {
                Bench bench = new Bench(DUE);
                bench.refuses("digitAt(" + slot + ", " + i + ")", bench.desk.digitAt(slot, i));
            }
        }
    }
}
