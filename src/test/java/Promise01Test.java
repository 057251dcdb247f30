import java.math.BigInteger;

/** Promise 1: a new object, and how long it is of use. */
public final class Promise01Test {
    private static final Due DUE = new Due("Promise 1");

    public static void main(String[] args) {
        DUE.test("all slots hold 0", Promise01Test::allHoldZero);
        DUE.test("all slots hold 0, whatever another object holds", Promise01Test::objectsAreApart);
        DUE.test("slots 0 .. 15, and none before or behind", Promise01Test::sixteenSlots);
        DUE.test("an object is used for at most 512 calls: the 512th is one of them", Promise01Test::lastCall);
        DUE.end();
    }

    private static void allHoldZero() {
        BigDesk desk = new BigDesk();
        for (int slot = 0; slot < 16; slot++) {
            isZero(desk, slot);
        }
    }

    private static void isZero(BigDesk desk, int slot) {
        DUE.is("sign(" + slot + ")", 1, desk.sign(slot));
        DUE.is("digits(" + slot + ")", 1, desk.digits(slot));
        DUE.is("digitAt(" + slot + ", 0)", 0, desk.digitAt(slot, 0));
        DUE.is("digitAt(" + slot + ", 1)", -1, desk.digitAt(slot, 1));
        DUE.is("modulo(" + slot + ", 2^60)", 0, desk.modulo(slot, 1L << 60));
        DUE.is("low(" + slot + ")", 0, desk.low(slot));
        DUE.is("order(" + slot + ", 0)", 1, desk.order(slot, 0));
    }

    private static void objectsAreApart() {
        BigDesk older = new BigDesk();
        for (int slot = 0; slot < 16; slot++) {
            older.set(slot, Long.MIN_VALUE);
        }
        BigDesk newer = new BigDesk();
        for (int slot = 0; slot < 16; slot++) {
            isZero(newer, slot);
        }
        for (int slot = 0; slot < 16; slot++) {
            newer.set(slot, 5);
            DUE.is("low(" + slot + ") of the older one", Long.MIN_VALUE, older.low(slot));
        }
    }

    private static void sixteenSlots() {
        BigDesk desk = new BigDesk();
        DUE.is("sign(0)", 1, desk.sign(0));
        DUE.is("sign(15)", 1, desk.sign(15));
        for (int slot : Bench.NO_SLOTS) {
            DUE.is("sign(" + slot + ")", -1, desk.sign(slot));
        }
    }

    private static void lastCall() {
        BigDesk desk = new BigDesk();
        desk.set(0, 1);
        for (int call = 2; call < 512; call++) {
            DUE.is("call " + call + ": sum(0, 0, 0)", 1, desk.sum(0, 0, 0));
        }
        BigInteger now = BigInteger.TWO.pow(510);
        long m = Numbers.CHUNK_BASE.longValue();
        DUE.is("call 512: modulo(0, " + m + ")", now.mod(Numbers.CHUNK_BASE).longValue(), desk.modulo(0, m));
    }
}
