import java.math.BigInteger;

/** Promises 1 to 4: a new object, set, digit, copy. */
public final class HoldingTest {
    private static final Due DUE = new Due("HoldingTest");

    public static void main(String[] args) {
        newObject();
        setHolds();
        setRefuses();
        digitAppends();
        digitBelowZero();
        digitAtTheLimit();
        digitBelowZeroAtTheLimit();
        digitRefuses();
        copyHolds();
        copyRefuses();
        objectsAreApart();
        DUE.end();
    }

    private static void newObject() {
        BigDesk desk = new BigDesk();
        for (int slot = 0; slot < 16; slot++) {
            DUE.is("new: sign(" + slot + ")", 1, desk.sign(slot));
            DUE.is("new: digits(" + slot + ")", 1, desk.digits(slot));
            DUE.is("new: digitAt(" + slot + ", 0)", 0, desk.digitAt(slot, 0));
            DUE.is("new: low(" + slot + ")", 0, desk.low(slot));
        }
    }

    private static void setHolds() {
        long[] values = {0, 1, -1, 7, 999999, 1000000, -1000000, 1000001, 999999999999L, 1000000000000L,
            -123456789012345L, Long.MAX_VALUE, Long.MIN_VALUE, Long.MIN_VALUE + 1, 0};
        for (long value : values) {
            BigDesk desk = new BigDesk();
            DUE.is("set(15, 88)", 1, desk.set(15, 88));
            DUE.is("set(15, " + value + ")", 1, desk.set(15, value));
            DUE.is("slot 15 after set", BigInteger.valueOf(value), Numbers.read(desk, 15));
            DUE.is("slot 14 after set of 15", BigInteger.ZERO, Numbers.read(desk, 14));
        }
    }

    private static void setRefuses() {
        BigDesk desk = new BigDesk();
        for (int slot : new int[] {-1, 16, Integer.MIN_VALUE, Integer.MAX_VALUE}) {
            DUE.is("set(" + slot + ", 5)", -1, desk.set(slot, 5));
        }
        for (int slot = 0; slot < 16; slot++) {
            DUE.is("low(" + slot + ") after refused set", 0, desk.low(slot));
        }
    }

    private static void digitAppends() {
        BigDesk desk = new BigDesk();
        StringBuilder text = new StringBuilder();
        for (int i = 0; i < 40; i++) {
            int d = (i * 7 + 3) % 10;
            text.append(d);
            DUE.is("digit(3, " + d + ")", 1, desk.digit(3, d));
        }
        DUE.is("slot 3 after digits", Numbers.of(text.toString()), Numbers.read(desk, 3));
    }

    private static void digitBelowZero() {
        BigDesk desk = new BigDesk();
        desk.set(0, -1);
        DUE.is("digit(0, 9) of -1", 1, desk.digit(0, 9));
        DUE.is("low of 10 * -1 + 9", -1, desk.low(0));
        desk.set(0, -100000);
        desk.digit(0, 1);
        DUE.is("low of 10 * -100000 + 1", -999999, desk.low(0));
    }

    private static void digitAtTheLimit() {
        BigDesk desk = new BigDesk();
        BigInteger before = Numbers.LONGEST.divide(BigInteger.TEN);
        Numbers.enter(desk, 0, before);
        DUE.is("digit to 300 digits", 1, desk.digit(0, 9));
        DUE.is("digits", 300, desk.digits(0));
        DUE.is("digit to 301 digits", -1, desk.digit(0, 0));
        DUE.is("slot 0 unchanged", Numbers.LONGEST, Numbers.read(desk, 0));
    }

    /** -10^299 ten times and 1 more has 300 digits again. */
    private static void digitBelowZeroAtTheLimit() {
        BigDesk desk = new BigDesk();
        Numbers.enter(desk, 0, BigInteger.TEN.pow(299).negate());
        DUE.is("digit(0, 0) of -10^299", -1, desk.digit(0, 0));
        DUE.is("digit(0, 1) of -10^299", 1, desk.digit(0, 1));
        DUE.is("slot 0 is -(10^300 - 1)", Numbers.LONGEST.negate(), Numbers.read(desk, 0));
        DUE.is("digit(0, 9) of that", -1, desk.digit(0, 9));
    }

    private static void digitRefuses() {
        BigDesk desk = new BigDesk();
        desk.set(0, 12);
        for (int d : new int[] {-1, 10, Integer.MIN_VALUE, Integer.MAX_VALUE}) {
            DUE.is("digit(0, " + d + ")", -1, desk.digit(0, d));
        }
        DUE.is("digit(-1, 3)", -1, desk.digit(-1, 3));
        DUE.is("digit(16, 3)", -1, desk.digit(16, 3));
        DUE.is("low(0) after refused digits", 12, desk.low(0));
    }

    private static void copyHolds() {
        BigDesk desk = new BigDesk();
        BigInteger number = Numbers.LONGEST.negate();
        Numbers.enter(desk, 0, number);
        DUE.is("copy(0, 15)", 1, desk.copy(0, 15));
        DUE.is("copy(0, 0)", 1, desk.copy(0, 0));
        DUE.is("set(0, 4)", 1, desk.set(0, 4));
        DUE.is("the copy after its source changed", 0, desk.order(15, 0));
        DUE.is("digits(15)", 300, desk.digits(15));
        DUE.is("copy(0, 15)", 1, desk.copy(0, 15));
        DUE.is("slot 15 with a short number", BigInteger.valueOf(4), Numbers.read(desk, 15));
        DUE.is("copy(1, 15)", 1, desk.copy(1, 15));
        DUE.is("slot 15 with 0", 1, desk.sign(15));
    }

    private static void copyRefuses() {
        BigDesk desk = new BigDesk();
        desk.set(0, 5);
        DUE.is("copy(-1, 0)", -1, desk.copy(-1, 0));
        DUE.is("copy(16, 0)", -1, desk.copy(16, 0));
        DUE.is("copy(0, -1)", -1, desk.copy(0, -1));
        DUE.is("copy(0, 16)", -1, desk.copy(0, 16));
        DUE.is("low(0)", 5, desk.low(0));
    }

    private static void objectsAreApart() {
        BigDesk one = new BigDesk();
        BigDesk other = new BigDesk();
        one.set(3, 5);
        DUE.is("low(3) of another desk", 0, other.low(3));
    }
}
