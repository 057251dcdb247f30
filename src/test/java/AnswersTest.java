import java.math.BigInteger;

/** Promises 15 and 17 to 21: order, sign, digits, digitAt, modulo, low. */
public final class AnswersTest {
    private static final Due DUE = new Due("AnswersTest");
    private static final int[] NO_SLOTS = {-1, 16, Integer.MIN_VALUE, Integer.MAX_VALUE};
    private static final BigInteger ONE = BigInteger.ONE;

    public static void main(String[] args) {
        orders();
        signs();
        digitCounts();
        digitsOneByOne();
        modulos();
        modulosLong();
        moduloRefuses();
        lows();
        noSuchSlots();
        DUE.end();
    }

    private static void orders() {
        long[] rising = {Long.MIN_VALUE, -1000000, -999999, -1, 0, 1, 999999, 1000000, Long.MAX_VALUE};
        BigDesk desk = new BigDesk();
        for (int i = 0; i < rising.length; i++) {
            desk.set(i, rising[i]);
        }
        for (int i = 0; i < rising.length; i++) {
            for (int j = 0; j < rising.length; j++) {
                DUE.is("order(" + rising[i] + ", " + rising[j] + ")", 1 + Integer.compare(i, j), desk.order(i, j));
            }
        }
        Numbers.enter(desk, 0, Numbers.LONGEST);
        Numbers.enter(desk, 1, Numbers.LONGEST.subtract(ONE));
        DUE.is("order of 300 digits", 2, desk.order(0, 1));
        DUE.is("order of 300 digits, turned", 0, desk.order(1, 0));
        desk.set(15, 0);
        desk.less(15, 0, 2);
        desk.less(15, 1, 3);
        DUE.is("order of 300 digits below 0", 0, desk.order(2, 3));
    }

    private static void signs() {
        BigDesk desk = new BigDesk();
        desk.set(0, -5);
        desk.set(2, 5);
        DUE.is("sign of -5", 0, desk.sign(0));
        DUE.is("sign of 0", 1, desk.sign(1));
        DUE.is("sign of 5", 2, desk.sign(2));
        desk.product(0, 1, 3);
        DUE.is("sign of -5 * 0", 1, desk.sign(3));
        desk.sum(0, 2, 3);
        DUE.is("sign of -5 + 5", 1, desk.sign(3));
        desk.left(0, 2, 3);
        DUE.is("sign of -5 left by 5", 1, desk.sign(3));
    }

    private static void digitCounts() {
        BigDesk desk = new BigDesk();
        DUE.is("digits of 0", 1, desk.digits(0));
        long value = 1;
        for (int count = 1; count <= 18; count++) {
            desk.set(0, value);
            DUE.is("digits of " + value, count, desk.digits(0));
            value *= 10;
            desk.set(0, 1 - value);
            DUE.is("digits of " + (1 - value), count, desk.digits(0));
        }
        desk.set(0, Long.MIN_VALUE);
        DUE.is("digits of the least long", 19, desk.digits(0));
        Numbers.enter(desk, 0, Numbers.LONGEST.negate());
        DUE.is("digits of -(10^300 - 1)", 300, desk.digits(0));
    }

    private static void digitsOneByOne() {
        BigDesk desk = new BigDesk();
        DUE.is("digitAt(0, 0) of 0", 0, desk.digitAt(0, 0));
        DUE.is("digitAt(0, 1) of 0", -1, desk.digitAt(0, 1));
        DUE.is("digitAt(0, -1) of 0", -1, desk.digitAt(0, -1));
        StringBuilder text = new StringBuilder("-");
        for (int i = 0; i < 300; i++) {
            text.append((i * i + 3 * i + 1) % 10);
        }
        Numbers.enter(desk, 0, new BigInteger(text.toString()));
        for (int i = 0; i < 300; i++) {
            DUE.is("digitAt(0, " + i + ")", text.charAt(i + 1) - '0', desk.digitAt(0, i));
        }
        DUE.is("digitAt(0, 300)", -1, desk.digitAt(0, 300));
        DUE.is("digitAt(0, -1)", -1, desk.digitAt(0, -1));
        DUE.is("digitAt(0, least)", -1, desk.digitAt(0, Integer.MIN_VALUE));
        DUE.is("digitAt(0, greatest)", -1, desk.digitAt(0, Integer.MAX_VALUE));
        desk.set(0, 1000000);
        DUE.is("digitAt(0, 6) of 1000000", 0, desk.digitAt(0, 6));
        DUE.is("digitAt(0, 7) of 1000000", -1, desk.digitAt(0, 7));
    }

    private static void modulos() {
        BigDesk desk = new BigDesk();
        for (long value = -20; value <= 20; value++) {
            desk.set(0, value);
            for (long m = 1; m <= 10; m++) {
                DUE.is("modulo of " + value + " by " + m, Math.floorMod(value, m), desk.modulo(0, m));
            }
        }
        desk = new BigDesk();
        long most = 1L << 60;
        for (long value : new long[] {Long.MIN_VALUE, Long.MAX_VALUE, most, most - 1, -most, -most - 1, -1}) {
            desk.set(0, value);
            for (long m : new long[] {most, most - 1, 1000000, 999999, 1}) {
                DUE.is("modulo of " + value + " by " + m, Math.floorMod(value, m), desk.modulo(0, m));
            }
        }
    }

    private static void modulosLong() {
        BigDesk desk = new BigDesk();
        BigInteger number = Numbers.LONGEST.divide(BigInteger.valueOf(7));
        Numbers.enter(desk, 0, number);
        Numbers.enter(desk, 1, number.negate());
        for (int bits = 0; bits <= 60; bits++) {
            long m = 1L << bits;
            BigInteger rest = number.mod(BigInteger.valueOf(m));
            DUE.is("modulo of a long number by 2^" + bits, rest.longValue(), desk.modulo(0, m));
            m -= bits == 0 ? 0 : bits % 3;
            if (m > 0) {
                BigInteger want = number.negate().mod(BigInteger.valueOf(m));
                DUE.is("modulo of a long number below 0 by " + m, want.longValue(), desk.modulo(1, m));
            }
        }
    }

    private static void moduloRefuses() {
        BigDesk desk = new BigDesk();
        desk.set(0, 5);
        for (long m : new long[] {0, -1, (1L << 60) + 1, Long.MIN_VALUE, Long.MAX_VALUE}) {
            DUE.is("modulo(0, " + m + ")", -1, desk.modulo(0, m));
        }
    }

    private static void lows() {
        BigDesk desk = new BigDesk();
        for (long value : new long[] {0, 1, -1, Long.MIN_VALUE, Long.MAX_VALUE, 1000000, -1000000}) {
            desk.set(0, value);
            DUE.is("low of " + value, value, desk.low(0));
        }
        desk.set(0, 2);
        desk.power(0, 63, 1);
        DUE.is("low of 2^63", Long.MIN_VALUE, desk.low(1));
        desk.power(0, 64, 1);
        DUE.is("low of 2^64", 0, desk.low(1));
        DUE.is("sign of 2^64", 2, desk.sign(1));
        Numbers.enter(desk, 3, Numbers.LONGEST);
        DUE.is("low of 10^300 - 1", Numbers.LONGEST.longValue(), desk.low(3));
        Numbers.enter(desk, 3, Numbers.LONGEST.negate());
        DUE.is("low of -(10^300 - 1)", Numbers.LONGEST.negate().longValue(), desk.low(3));
    }

    private static void noSuchSlots() {
        BigDesk desk = new BigDesk();
        for (int slot : NO_SLOTS) {
            DUE.is("order(" + slot + ", 0)", -1, desk.order(slot, 0));
            DUE.is("order(0, " + slot + ")", -1, desk.order(0, slot));
            DUE.is("sign(" + slot + ")", -1, desk.sign(slot));
            DUE.is("digits(" + slot + ")", -1, desk.digits(slot));
            DUE.is("digitAt(" + slot + ", 0)", -1, desk.digitAt(slot, 0));
            DUE.is("modulo(" + slot + ", 7)", -1, desk.modulo(slot, 7));
            DUE.is("low(" + slot + ")", 0, desk.low(slot));
        }
    }
}
