import java.math.BigInteger;
import java.util.Arrays;

/**
 * A desk with a number of its own in every slot. Each call tried on it is followed by a look at all
 * sixteen, so that a slot that should have stayed as it was shows.
 */
final class Bench {
    static final int[] NO_SLOTS = {-1, 16, Integer.MIN_VALUE, Integer.MAX_VALUE};
    static final int[] END_SLOTS = {0, 15};
    static final int SLOTS = 16;

    private static final int MOST_CALLS = 512;
    // A prime: with the low 64 bits, the sign and the length it leaves hardly a wrong number unseen.
    private static final long PROBE = 1152921504606846883L;

    final BigDesk desk = new BigDesk();
    private final Due due;
    private final BigInteger[] held = new BigInteger[SLOTS];
    private int calls = 0;

    Bench(Due due) {
        this.due = due;
        for (int slot = 0; slot < SLOTS; slot++) {
            with(slot, 1009 + 20 * slot);
        }
    }

    /** What a test tries with a choice of slots. */
    interface Try {
        void with(int... slots);
    }

    /** All ways to name so many slots out of these, the same one many times too. */
    static void eachChoice(int[] from, int places, Try body) {
        int ways = 1;
        for (int i = 0; i < places; i++) {
            ways *= from.length;
        }
        for (int way = 0; way < ways; way++) {
            int[] slots = new int[places];
            int rest = way;
            for (int i = 0; i < places; i++) {
                slots[i] = from[rest % from.length];
                rest /= from.length;
            }
            body.with(slots);
        }
    }

    /** Slots 1, 2, .. with one that is none in each place in turn, and then in all of them. */
    static void eachWithNoSlot(int places, Try body) {
        for (int none : NO_SLOTS) {
            for (int place = 0; place <= places; place++) {
                int[] slots = new int[places];
                for (int i = 0; i < places; i++) {
                    slots[i] = i == place || place == places ? none : i + 1;
                }
                body.with(slots);
            }
        }
    }

    static String named(String name, int... slots) {
        return name + Arrays.toString(slots).replace('[', '(').replace(']', ')');
    }

    Bench with(int slot, long number) {
        desk.set(slot, number);
        calls++;
        held[slot] = BigInteger.valueOf(number);
        return this;
    }

    Bench with(int slot, BigInteger number) {
        if (number.bitLength() < 64) {
            return with(slot, number.longValue());
        }
        int base = shortSlotBut(slot, slot);
        int part = shortSlotBut(slot, base);
        calls += Numbers.enter(desk, slot, base, part, number);
        held[slot] = number;
        with(base, held[base]);
        return with(part, held[part]);
    }

    /** Has it work on the longest numbers: what they leave inside the desk must not show in a later answer. */
    Bench afterLongNumbers() {
        BigInteger[] before = {held[0], held[1], held[2]};
        with(0, Numbers.LONGEST).with(1, Numbers.LONGEST.subtract(BigInteger.ONE));
        desk.fraction(0, 1, 1, 0);
        desk.power(0, 3, 2);
        desk.root(0, 2);
        desk.sum(1, 2, 2);
        desk.divisor(0, 0, 2);
        calls += 5;
        return with(0, before[0]).with(1, before[1]).with(2, before[2]);
    }

    private int shortSlotBut(int one, int other) {
        int slot = SLOTS - 1;
        while (slot == one || slot == other || held[slot].bitLength() >= 64) {
            slot--;
        }
        return slot;
    }

    BigInteger held(int slot) {
        return held[slot];
    }

    /** The call answered NONE and changed nothing. */
    void refuses(String call, long got) {
        answers(call, BigDesk.NONE, got);
    }

    /** The call answered this and changed nothing. */
    void answers(String call, long want, long got) {
        calls++;
        due.is(call, want, got);
        look(call);
    }

    /** The call answered 1, and changed nothing but that a slot holds what it should now. */
    void holds(String call, long got, int slot, BigInteger now) {
        held[slot] = now;
        answers(call, 1, got);
    }

    void holds(String call, long got, int slot, long now) {
        holds(call, got, slot, BigInteger.valueOf(now));
    }

    /** The same of two slots. */
    void holds(String call, long got, int a, BigInteger nowA, int b, BigInteger nowB) {
        held[a] = nowA;
        held[b] = nowB;
        answers(call, 1, got);
    }

    private void look(String call) {
        for (int slot = 0; slot < SLOTS; slot++) {
            String then = call + ", then of slot " + slot + ": ";
            BigInteger number = held[slot];
            due.is(then + "sign", 1 + number.signum(), desk.sign(slot));
            due.is(then + "digits", number.abs().toString().length(), desk.digits(slot));
            due.is(then + "low", number.longValue(), desk.low(slot));
            due.is(then + "modulo", number.mod(BigInteger.valueOf(PROBE)).longValue(), desk.modulo(slot, PROBE));
            calls += 4;
        }
        due.is(call + " and all calls before it are at most 512", true, calls <= MOST_CALLS);
    }
}
