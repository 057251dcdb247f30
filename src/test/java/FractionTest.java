import java.math.BigInteger;

/** Promises 13, 14 and 16: lowest, fraction, ratio. */
public final class FractionTest {
    private static final Due DUE = new Due("FractionTest");
    private static final BigInteger ONE = BigInteger.ONE;

    public static void main(String[] args) {
        lowestTerms();
        lowestLong();
        lowestRefuses();
        fractionSums();
        fractionSameSlots();
        fractionLong();
        fractionTooLong();
        fractionRefuses();
        ratios();
        ratioLong();
        ratioRefuses();
        DUE.end();
    }

    private static void checkLowest(long a, long b, long wantA, long wantB) {
        BigDesk desk = new BigDesk();
        desk.set(0, a);
        desk.set(1, b);
        DUE.is("lowest(" + a + " / " + b + ")", 1, desk.lowest(0, 1));
        DUE.is("a of lowest(" + a + " / " + b + ")", wantA, desk.low(0));
        DUE.is("b of lowest(" + a + " / " + b + ")", wantB, desk.low(1));
    }

    private static void lowestTerms() {
        checkLowest(6, 4, 3, 2);
        checkLowest(6, -4, -3, 2);
        checkLowest(-6, 4, -3, 2);
        checkLowest(-6, -4, 3, 2);
        checkLowest(0, 5, 0, 1);
        checkLowest(0, -5, 0, 1);
        checkLowest(5, 5, 1, 1);
        checkLowest(5, -1, -5, 1);
        checkLowest(7, 9, 7, 9);
        checkLowest(1000000, 1000000000000L, 1, 1000000);
    }

    private static void lowestLong() {
        BigDesk desk = new BigDesk();
        BigInteger common = BigInteger.TEN.pow(149).add(ONE);
        BigInteger a = BigInteger.TEN.pow(150).subtract(ONE);
        BigInteger b = BigInteger.TEN.pow(150).subtract(BigInteger.TWO);
        Numbers.enter(desk, 0, a.multiply(common));
        Numbers.enter(desk, 1, b.multiply(common).negate());
        DUE.is("lowest of long numbers", 1, desk.lowest(0, 1));
        DUE.is("a of lowest of long numbers", a.negate(), Numbers.read(desk, 0));
        DUE.is("b of lowest of long numbers", b, Numbers.read(desk, 1));
    }

    private static void lowestRefuses() {
        BigDesk desk = new BigDesk();
        desk.set(0, 6);
        desk.set(1, 4);
        DUE.is("lowest(0, 0)", -1, desk.lowest(0, 0));
        DUE.is("lowest(0, 2) over 0", -1, desk.lowest(0, 2));
        DUE.is("lowest(2, 3) of 0 over 0", -1, desk.lowest(2, 3));
        for (int slot : new int[] {-1, 16, Integer.MIN_VALUE, Integer.MAX_VALUE}) {
            DUE.is("lowest(" + slot + ", 1)", -1, desk.lowest(slot, 1));
            DUE.is("lowest(0, " + slot + ")", -1, desk.lowest(0, slot));
        }
        DUE.is("a unchanged", 6, desk.low(0));
        DUE.is("b unchanged", 4, desk.low(1));
    }

    private static void checkFraction(long[] terms, long wantA, long wantB) {
        BigDesk desk = new BigDesk();
        String text = "fraction(" + terms[0] + " / " + terms[1] + " + " + terms[2] + " / " + terms[3] + ")";
        for (int i = 0; i < 4; i++) {
            desk.set(i, terms[i]);
        }
        DUE.is(text, 1, desk.fraction(0, 1, 2, 3));
        DUE.is("a of " + text, wantA, desk.low(0));
        DUE.is("b of " + text, wantB, desk.low(1));
        DUE.is("c of " + text, terms[2], desk.low(2));
        DUE.is("d of " + text, terms[3], desk.low(3));
    }

    private static void fractionSums() {
        checkFraction(new long[] {1, 2, 1, 3}, 5, 6);
        checkFraction(new long[] {1, 2, -1, 3}, 1, 6);
        checkFraction(new long[] {1, -2, 1, 3}, -1, 6);
        checkFraction(new long[] {1, -2, 1, -3}, -5, 6);
        checkFraction(new long[] {1, 3, 1, -6}, 1, 6);
        checkFraction(new long[] {1, 2, 1, -2}, 0, 1);
        checkFraction(new long[] {0, -7, 0, 9}, 0, 1);
        checkFraction(new long[] {10, 4, 0, 9}, 5, 2);
        checkFraction(new long[] {-3, 4, -5, 6}, -19, 12);
    }

    private static void fractionSameSlots() {
        BigDesk desk = new BigDesk();
        desk.set(0, 3);
        desk.set(1, 4);
        DUE.is("fraction(0, 1, 0, 1)", 1, desk.fraction(0, 1, 0, 1));
        DUE.is("a twice", 3, desk.low(0));
        DUE.is("b twice", 2, desk.low(1));
        DUE.is("fraction(0, 1, 1, 0)", 1, desk.fraction(0, 1, 1, 0));
        DUE.is("a crossed", 13, desk.low(0));
        DUE.is("b crossed", 6, desk.low(1));
        DUE.is("fraction(0, 1, 1, 1)", 1, desk.fraction(0, 1, 1, 1));
        DUE.is("a and one", 19, desk.low(0));
        DUE.is("b and one", 6, desk.low(1));
        desk.set(2, 7);
        DUE.is("fraction(0, 1, 2, 2)", 1, desk.fraction(0, 1, 2, 2));
        DUE.is("a and one again", 25, desk.low(0));
    }

    /** On the way the numbers have 600 digits; in lowest terms they fit. */
    private static void fractionLong() {
        BigDesk desk = new BigDesk();
        BigInteger b = Numbers.LONGEST;
        Numbers.enter(desk, 0, b.subtract(ONE));
        Numbers.enter(desk, 1, b);
        Numbers.enter(desk, 2, ONE.negate());
        Numbers.enter(desk, 3, b.negate());
        DUE.is("fraction of long numbers", 1, desk.fraction(0, 1, 2, 3));
        DUE.is("a of it", ONE, Numbers.read(desk, 0));
        DUE.is("b of it", ONE, Numbers.read(desk, 1));
        desk = new BigDesk();
        Numbers.enter(desk, 4, Numbers.LONGEST.subtract(ONE));
        desk.set(5, 1);
        DUE.is("fraction to 300 digits", 1, desk.fraction(4, 5, 5, 5));
        DUE.is("a of that", Numbers.LONGEST, Numbers.read(desk, 4));
    }

    private static void fractionTooLong() {
        BigDesk desk = new BigDesk();
        Numbers.enter(desk, 0, Numbers.LONGEST);
        desk.set(1, 1);
        desk.set(2, 1);
        DUE.is("fraction with a of 301 digits", -1, desk.fraction(0, 1, 2, 2));
        DUE.is("order after it", 2, desk.order(0, 1));
        DUE.is("a after it", -1, desk.sum(0, 1, 0));
        DUE.is("b after it", 1, desk.low(1));
        Numbers.enter(desk, 3, BigInteger.TEN.pow(150));
        Numbers.enter(desk, 4, BigInteger.TEN.pow(150).add(ONE));
        desk.set(5, -7);
        desk.set(6, 7);
        DUE.is("fraction with b of 301 digits", -1, desk.fraction(5, 3, 6, 4));
        DUE.is("a after that", -7, desk.low(5));
        DUE.is("b after that", BigInteger.TEN.pow(150), Numbers.read(desk, 3));
    }

    private static void fractionRefuses() {
        BigDesk desk = new BigDesk();
        for (int i = 0; i < 4; i++) {
            desk.set(i, i + 2);
        }
        DUE.is("fraction(0, 0, 2, 3)", -1, desk.fraction(0, 0, 2, 3));
        DUE.is("fraction(0, 4, 2, 3) over 0", -1, desk.fraction(0, 4, 2, 3));
        DUE.is("fraction(0, 1, 2, 4) over 0", -1, desk.fraction(0, 1, 2, 4));
        for (int slot : new int[] {-1, 16, Integer.MIN_VALUE, Integer.MAX_VALUE}) {
            DUE.is("fraction(" + slot + ", 1, 2, 3)", -1, desk.fraction(slot, 1, 2, 3));
            DUE.is("fraction(0, " + slot + ", 2, 3)", -1, desk.fraction(0, slot, 2, 3));
            DUE.is("fraction(0, 1, " + slot + ", 3)", -1, desk.fraction(0, 1, slot, 3));
            DUE.is("fraction(0, 1, 2, " + slot + ")", -1, desk.fraction(0, 1, 2, slot));
        }
        for (int i = 0; i < 4; i++) {
            DUE.is("slot " + i + " unchanged", i + 2, desk.low(i));
        }
    }

    private static void checkRatio(int want, long... terms) {
        BigDesk desk = new BigDesk();
        for (int i = 0; i < 4; i++) {
            desk.set(i, terms[i]);
        }
        String text = "ratio(" + terms[0] + " / " + terms[1] + ", " + terms[2] + " / " + terms[3] + ")";
        DUE.is(text, want, desk.ratio(0, 1, 2, 3));
        for (int i = 0; i < 4; i++) {
            DUE.is("slot " + i + " after " + text, terms[i], desk.low(i));
        }
    }

    private static void ratios() {
        checkRatio(0, 1, 3, 1, 2);
        checkRatio(2, 1, 2, 1, 3);
        checkRatio(1, 1, 2, 2, 4);
        checkRatio(1, -1, 2, 2, -4);
        checkRatio(1, -1, -2, 2, 4);
        checkRatio(0, 1, -2, 1, 3);
        checkRatio(2, 1, 2, 1, -3);
        checkRatio(0, 1, -2, 1, -3);
        checkRatio(1, 0, -2, 0, 3);
        checkRatio(0, -7, 2, 0, -3);
        checkRatio(2, -7, -2, 0, -3);
    }

    private static void ratioLong() {
        BigDesk desk = new BigDesk();
        Numbers.enter(desk, 0, Numbers.LONGEST);
        Numbers.enter(desk, 1, Numbers.LONGEST.subtract(ONE));
        Numbers.enter(desk, 2, Numbers.LONGEST.subtract(BigInteger.TWO));
        DUE.is("ratio(0, 1, 1, 2)", 0, desk.ratio(0, 1, 1, 2));
        DUE.is("ratio(1, 2, 0, 1)", 2, desk.ratio(1, 2, 0, 1));
        DUE.is("ratio(0, 0, 1, 1)", 1, desk.ratio(0, 0, 1, 1));
    }

    private static void ratioRefuses() {
        BigDesk desk = new BigDesk();
        for (int i = 0; i < 4; i++) {
            desk.set(i, i + 2);
        }
        DUE.is("ratio(0, 4, 2, 3) over 0", -1, desk.ratio(0, 4, 2, 3));
        DUE.is("ratio(0, 1, 2, 4) over 0", -1, desk.ratio(0, 1, 2, 4));
        for (int slot : new int[] {-1, 16, Integer.MIN_VALUE, Integer.MAX_VALUE}) {
            DUE.is("ratio(" + slot + ", 1, 2, 3)", -1, desk.ratio(slot, 1, 2, 3));
            DUE.is("ratio(0, " + slot + ", 2, 3)", -1, desk.ratio(0, slot, 2, 3));
            DUE.is("ratio(0, 1, " + slot + ", 3)", -1, desk.ratio(0, 1, slot, 3));
            DUE.is("ratio(0, 1, 2, " + slot + ")", -1, desk.ratio(0, 1, 2, slot));
        }
    }
}
