import java.math.BigInteger;

/** Brings numbers of any length to a desk's slots and back by the calls of the face alone. */
final class Numbers {
    static final BigInteger FIRST_TOO_LONG = BigInteger.TEN.pow(300);
    static final BigInteger LONGEST = FIRST_TOO_LONG.subtract(BigInteger.ONE);
    static final BigInteger CHUNK_BASE = BigInteger.TEN.pow(18);

    private Numbers() {
    }

    static BigInteger of(String text) {
        return new BigInteger(text);
    }

    static BigInteger of(long number) {
        return BigInteger.valueOf(number);
    }

    static BigInteger ten(int e) {
        return BigInteger.TEN.pow(e);
    }

    static boolean fits(BigInteger number) {
        return number.abs().compareTo(FIRST_TOO_LONG) < 0;
    }

    /** As the one with five arguments, with slots 14 and 15 for the way. */
    static int enter(BigDesk desk, int slot, BigInteger number) {
        return enter(desk, slot, 14, 15, number);
    }

    /** Answers how many calls it made; slots base and part are used on the way, and slot is neither. */
    static int enter(BigDesk desk, int slot, int base, int part, BigInteger number) {
        int chunks = number.abs().toString().length() / 18 + 1;
        desk.set(base, CHUNK_BASE.longValue());
        desk.set(slot, 0);
        for (int i = chunks - 1; i >= 0; i--) {
            long chunk = number.divide(CHUNK_BASE.pow(i)).remainder(CHUNK_BASE).longValue();
            desk.product(slot, base, slot);
            desk.set(part, chunk);
            desk.sum(slot, part, slot);
        }
        return 2 + 3 * chunks;
    }

    /** As many calls as the number has digits, and two more. */
    static BigInteger read(BigDesk desk, int slot) {
        StringBuilder text = new StringBuilder();
        int count = desk.digits(slot);
        for (int i = 0; i < count; i++) {
            text.append(desk.digitAt(slot, i));
        }
        BigInteger number = new BigInteger(text.toString());
        return desk.sign(slot) == 0 ? number.negate() : number;
    }
}
