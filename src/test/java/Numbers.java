import java.math.BigInteger;

/** Brings numbers of any length to a desk's slots and back by the calls of the face alone. */
final class Numbers {
    static final BigInteger FIRST_TOO_LONG = BigInteger.TEN.pow(300);
    static final BigInteger LONGEST = FIRST_TOO_LONG.subtract(BigInteger.ONE);
    static final BigInteger CHUNK_BASE = BigInteger.TEN.pow(18);

    private Numbers() {
    }

    static BigInteger of(String text) {
        return new BigInteger(text);
    }

    static boolean fits(BigInteger number) {
        return number.abs().compareTo(FIRST_TOO_LONG) < 0;
    }

    /** Answers how many calls it made; slots 14 and 15 are used on the way, and slot is neither. */
    static int enter(BigDesk desk, int slot, BigInteger number) {
        int chunks = number.abs().toString().length() / 18 + 1;
        desk.set(14, CHUNK_BASE.longValue());
        desk.set(slot, 0);
        for (int i = chunks - 1; i >= 0; i--) {
            long chunk = number.divide(CHUNK_BASE.pow(i)).remainder(CHUNK_BASE).longValue();
            desk.product(slot, 14, slot);
            desk.set(15, chunk);
            desk.sum(slot, 15, slot);
        }
        return 2 + 3 * chunks;
    }

    /** As many calls as the number has digits, and two more. */
    static BigInteger read(BigDesk desk, int slot) {
        StringBuilder text = new StringBuilder();
        int count = desk.digits(slot);
        for (int i = 0; i < count; i++) {
            text.append(desk.digitAt(slot, i));
        }
        BigInteger number = new BigInteger(text.toString());
        return desk.sign(slot) == 0 ? number.negate() : number;
    }
}
