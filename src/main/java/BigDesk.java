/**
 * Whole numbers of up to 300 digits in sixteen slots, and fractions of two of them.
 *
 * <p>Every row that a call needs is made with the object and used again, so that no call makes anything.
 */
public final class BigDesk {

    public static final int NONE = -1;

    private static final int DONE = 1;
    private static final int SLOTS = 16;
    private static final int MOST_TIMES = 1000;
    private static final int TOP_BIT_OF_TIMES = 1 << 9;
    private static final long MOST_MODULUS = 1L << 60;

    // A base of six digits: 300 digits are 50 parts exactly, three parts fit a long, and so does a
    // sum of a hundred products of two parts.
    private static final int BASE = 1000000;
    private static final int DIGITS_OF_PART = 6;
    private static final int MOST_PARTS = 50;

    // The sum of two products of two numbers has 101 parts, and dividing it wants one part more. So no
    // number comes near the end of its row; where one grows, its end is looked at all the same.
    private static final int ROOM = 104;

    private static final int PARTS_OF_LONG = 4;
    private static final int[] TENS = {1, 10, 100, 1000, 10000, 100000};

    // Their product is BASE, and none is too great for a number below 2^60 to be multiplied by it.
    private static final int[] FACTORS_OF_BASE = {8, 8, 5, 5, 5, 5, 5, 5};

    // Newton's steps from a start that is right in three digits; some ten are ever taken.
    private static final int MOST_ROOT_STEPS = 64;

    // Euclid's steps for two numbers of 606 digits are fewer than 3,000.
    private static final int MOST_EUCLID_STEPS = 10000;

    // Leading parts below 10^18 foretell at most 44 of Euclid's steps.
    private static final int MOST_FORETOLD_STEPS = 64;

    // LIFT times BASE lifts a sum of two products of up to 10^15 above 0, where / rounds down.
    private static final long LIFT = 1000000000000L;

    private final Whole[] slots;
    private final Whole upper;
    private final Whole lower;
    private final Whole first;
    private final Whole second;
    private final Whole quotient;
    private final Pair pair;

    public BigDesk() {
        slots = new Whole[SLOTS];
        for (int i = 0; i < SLOTS; i++) {
            slots[i] = new Whole();
        }
        upper = new Whole();
        lower = new Whole();
        first = new Whole();
        second = new Whole();
        quotient = new Whole();
        pair = new Pair();
    }

    public int set(int slot, long v) {
        if (!isSlot(slot)) {
            return NONE;
        }
        slots[slot].load(v);
        return DONE;
    }

    public int digit(int slot, int d) {
        if (!isSlot(slot) || d < 0 || d > 9) {
            return NONE;
        }
        second.load(10);
        first.takeProduct(slots[slot], second);
        second.load(d);
        upper.takeSum(first, second, false);
        return keep(upper, slot);
    }

    public int copy(int from, int to) {
        if (!areSlots(from, to)) {
            return NONE;
        }
        return keep(slots[from], to);
    }

    public int sum(int a, int b, int to) {
        return addOrTakeAway(a, b, to, false);
    }

    public int less(int a, int b, int to) {
        return addOrTakeAway(a, b, to, true);
    }

    public int product(int a, int b, int to) {
        if (!areSlots(a, b) || !isSlot(to)) {
            return NONE;
        }
        upper.takeProduct(slots[a], slots[b]);
        return keep(upper, to);
    }

    public int over(int a, int b, int to) {
        if (!isSlot(to) || !divideSlots(a, b)) {
            return NONE;
        }
        return keep(quotient, to);
    }

    public int left(int a, int b, int to) {
        if (!isSlot(to) || !divideSlots(a, b)) {
            return NONE;
        }
        return keep(upper, to);
    }

    public int divisor(int a, int b, int to) {
        if (!areSlots(a, b) || !isSlot(to)) {
            return NONE;
        }
        return keep(pair.commonDivisor(slots[a], slots[b]), to);
    }

    public int root(int a, int to) {
        if (!areSlots(a, to) || slots[a].below) {
            return NONE;
        }
        return keep(squareRoot(slots[a]), to);
    }

    public int power(int a, int e, int to) {
        if (!areSlots(a, to) || e < 0 || e > MOST_TIMES) {
            return NONE;
        }
        Whole held = first;
        Whole next = second;
        held.load(1);
        // From the highest bit of e down, what is held is never further from 0 than the end is: if it
        // is too long, so is the end.
        for (int bit = TOP_BIT_OF_TIMES; bit > 0; bit >>= 1) {
            next.takeProduct(held, held);
            if (next.isTooLong()) {
                return NONE;
            }
            if ((e & bit) == 0) {
                Whole old = held;
                held = next;
                next = old;
            } else {
                held.takeProduct(next, slots[a]);
            }
            if (held.isTooLong()) {
                return NONE;
            }
        }
        return keep(held, to);
    }

    public int lowest(int a, int b) {
        if (!areSlots(a, b) || a == b || slots[b].isZero()) {
            return NONE;
        }
        upper.take(slots[a]);
        lower.take(slots[b]);
        return keepLowest(a, b);
    }

    public int fraction(int a, int b, int c, int d) {
        if (!areFractions(a, b, c, d) || a == b) {
            return NONE;
        }
        first.takeProduct(slots[a], slots[d]);
        second.takeProduct(slots[c], slots[b]);
        upper.takeSum(first, second, false);
        lower.takeProduct(slots[b], slots[d]);
        return keepLowest(a, b);
    }

    public int order(int a, int b) {
        if (!areSlots(a, b)) {
            return NONE;
        }
        return 1 + slots[a].compareWhole(slots[b]);
    }

    public int ratio(int a, int b, int c, int d) {
        if (!areFractions(a, b, c, d)) {
            return NONE;
        }
        first.takeProduct(slots[a], slots[d]);
        second.takeProduct(slots[c], slots[b]);
        // Both fractions were multiplied by b times d, which turns the order round when it is below 0.
        boolean turned = slots[b].below != slots[d].below;
        return 1 + (turned ? second.compareWhole(first) : first.compareWhole(second));
    }

    public int sign(int slot) {
        if (!isSlot(slot)) {
            return NONE;
        }
        if (slots[slot].isZero()) {
            return 1;
        }
        return slots[slot].below ? 0 : 2;
    }

    public int digits(int slot) {
        if (!isSlot(slot)) {
            return NONE;
        }
        return slots[slot].countDigits();
    }

    public int digitAt(int slot, int i) {
        if (!isSlot(slot) || i < 0 || i >= slots[slot].countDigits()) {
            return NONE;
        }
        return slots[slot].digitOfPlace(slots[slot].countDigits() - 1 - i);
    }

    public long modulo(int slot, long m) {
        if (!isSlot(slot) || m < 1 || m > MOST_MODULUS) {
            return NONE;
        }
        return slots[slot].remainder(m);
    }

    public long low(int slot) {
        if (!isSlot(slot)) {
            return 0;
        }
        return slots[slot].lowBits();
    }

    private static boolean isSlot(int slot) {
        return slot >= 0 && slot < SLOTS;
    }

    private static boolean areSlots(int a, int b) {
        return isSlot(a) && isSlot(b);
    }

    private boolean areFractions(int a, int b, int c, int d) {
        return areSlots(a, b) && areSlots(c, d) && !slots[b].isZero() && !slots[d].isZero();
    }

    private int keep(Whole number, int to) {
        if (number.isTooLong()) {
            return NONE;
        }
        slots[to].take(number);
        return DONE;
    }

    private int addOrTakeAway(int a, int b, int to, boolean away) {
        if (!areSlots(a, b) || !isSlot(to)) {
            return NONE;
        }
        upper.takeSum(slots[a], slots[b], away);
        return keep(upper, to);
    }

    /** Leaves a over b in quotient and the rest in upper; false when that can't be. */
    private boolean divideSlots(int a, int b) {
        if (!areSlots(a, b) || slots[b].isZero()) {
            return false;
        }
        upper.take(slots[a]);
        upper.divideBy(slots[b], quotient);
        return true;
    }

    /** Newton's steps down from a number that is above the root; x is not below 0. */
    private Whole squareRoot(Whole x) {
        Whole guess = first;
        Whole next = second;
        if (x.isZero()) {
            return x;
        }
        guess.loadAboveRoot(x);
        for (int step = 0; step < MOST_ROOT_STEPS; step++) {
            upper.take(x);
            upper.divideBy(guess, quotient);
            next.takeSum(guess, quotient, false);
            next.halve();
            if (next.compareParts(guess) >= 0) {
                return guess;
            }
            Whole old = guess;
            guess = next;
            next = old;
        }
        return guess;
    }

    /** Brings upper over lower to lowest terms and keeps them in slots a and b; lower is not 0. */
    private int keepLowest(int a, int b) {
        Whole common = pair.commonDivisor(upper, lower);
        upper.divideBy(common, first);
        lower.divideBy(common, second);
        if (second.below) {
            first.turnSign();
            second.turnSign();
        }
        // Both are looked at before either is kept: a call that answers NONE changes nothing.
        if (first.isTooLong() || second.isTooLong()) {
            return NONE;
        }
        slots[a].take(first);
        slots[b].take(second);
        return DONE;
    }

    /** A whole number: its parts in base BASE, the lowest first; what stands above its size is left over. */
    private static final class Whole {
        final int[] parts;
        int size;
        boolean below;

        Whole() {
            parts = new int[ROOM];
            size = 0;
            below = false;
        }

        boolean isZero() {
            return size == 0;
        }

        boolean isTooLong() {
            return size > MOST_PARTS;
        }

        void turnSign() {
            below = !below && size > 0;
        }

        /** Counts as its own only the parts up to the highest one that is not 0. */
        void trimTo(int most) {
            int n = most;
            while (n > 0 && parts[n - 1] == 0) {
                n--;
            }
            size = n;
            if (n == 0) {
                below = false;
            }
        }

        /** Puts 0 in place of what may be left over there. */
        void clearParts(int from, int end) {
            for (int i = from; i < end; i++) {
                parts[i] = 0;
            }
        }

        int partOrZero(int i) {
            return i >= 0 && i < size ? parts[i] : 0;
        }

        void load(long v) {
            long rest = v;
            for (int i = 0; i < PARTS_OF_LONG; i++) {
                // The sign goes part by part, for the least long has no opposite.
                parts[i] = (int) Math.abs(rest % BASE);
                rest /= BASE;
            }
            below = v < 0;
            trimTo(PARTS_OF_LONG);
        }

        void take(Whole other) {
            System.arraycopy(other.parts, 0, parts, 0, other.size);
            size = other.size;
            below = other.below;
        }

        /** x and y together, or x less y; this is neither of them. */
        void takeSum(Whole x, Whole y, boolean away) {
            boolean yBelow = y.below != away;
            boolean xLeads = x.compareParts(y) >= 0;
            below = xLeads ? x.below : yBelow;
            if (x.below == yBelow) {
                addParts(x, y);
            } else if (xLeads) {
                subtractParts(x, y);
            } else {
                subtractParts(y, x);
            }
        }

        private void addParts(Whole x, Whole y) {
            int n = Math.min(Math.max(x.size, y.size), ROOM - 1);
            int carry = 0;
            for (int i = 0; i < n; i++) {
                int part = x.partOrZero(i) + y.partOrZero(i) + carry;
                carry = part >= BASE ? 1 : 0;
                parts[i] = part - carry * BASE;
            }
            parts[n] = carry;
            trimTo(n + 1);
        }

        private void subtractParts(Whole more, Whole fewer) {
            int borrow = 0;
            for (int i = 0; i < more.size; i++) {
                int part = more.parts[i] - fewer.partOrZero(i) - borrow;
                borrow = part < 0 ? 1 : 0;
                parts[i] = part + borrow * BASE;
            }
            trimTo(more.size);
        }

        /** x times y, neither of them too long for a slot, and this neither of them. */
        void takeProduct(Whole x, Whole y) {
            int n = Math.min(x.size + y.size, ROOM);
            int[] ofX = x.parts;
            int[] ofY = y.parts;
            long carry = 0;
            for (int k = 0; k < n; k++) {
                int end = Math.min(k + 1, x.size);
                for (int i = Math.max(0, k - y.size + 1); i < end; i++) {
                    carry += (long) ofX[i] * ofY[k - i];
                }
                parts[k] = (int) (carry % BASE);
                carry /= BASE;
            }
            below = x.below != y.below;
            trimTo(n);
        }

        void halve() {
            int carry = 0;
            for (int i = size - 1; i >= 0; i--) {
                int part = carry * BASE + parts[i];
                parts[i] = part / 2;
                carry = part % 2;
            }
            trimTo(size);
        }

        int compareParts(Whole other) {
            if (size != other.size) {
                return size < other.size ? -1 : 1;
            }
            for (int i = size - 1; i >= 0; i--) {
                if (parts[i] != other.parts[i]) {
                    return parts[i] < other.parts[i] ? -1 : 1;
                }
            }
            return 0;
        }

        int compareWhole(Whole other) {
            if (below != other.below) {
                return below ? -1 : 1;
            }
            return below ? other.compareParts(this) : compareParts(other);
        }

        /** Leaves here what is left over, its sign as it was, and the rest of the answer in times. */
        void divideBy(Whole by, Whole times) {
            int places = size - by.size + 1;
            long lead = by.leadOfTwo();
            if (lead == 0 || places <= 0 || size >= ROOM) {
                times.load(0);
                return;
            }
            parts[size] = 0;
            for (int place = places - 1; place >= 0; place--) {
                times.parts[place] = takeAway(by, lead, place);
            }
            times.below = below != by.below;
            times.trimTo(places);
            trimTo(by.size);
        }

        private long leadOfTwo() {
            return (long) partOrZero(size - 1) * BASE + partOrZero(size - 2);
        }

        /** How many times by, set up by so many places, goes into what is here; that is taken away. */
        private int takeAway(Whole by, long lead, int place) {
            int top = place + by.size;
            long under = top >= 2 ? parts[top - 2] : 0;
            long head = ((long) parts[top] * BASE + parts[top - 1]) * BASE + under;
            int times = lead == 0 ? 0 : (int) (head / lead);
            if (times == 0) {
                return 0;
            }
            subtractTimes(by, times, place);
            // Three leading parts over two, which are BASE at least, are never more than one too many.
            if (parts[top] < 0) {
                addBack(by, place);
                times--;
            }
            return times;
        }

        private void subtractTimes(Whole by, int times, int place) {
            long carry = 0;
            for (int i = 0; i < by.size; i++) {
                long taken = (long) times * by.parts[i] + carry;
                carry = taken / BASE;
                int part = parts[place + i] - (int) (taken - carry * BASE);
                if (part < 0) {
                    part += BASE;
                    carry++;
                }
                parts[place + i] = part;
            }
            parts[place + by.size] -= (int) carry;
        }

        private void addBack(Whole by, int place) {
            int carry = 0;
            for (int i = 0; i < by.size; i++) {
                int part = parts[place + i] + by.parts[i] + carry;
                carry = part >= BASE ? 1 : 0;
                parts[place + i] = part - carry * BASE;
            }
            parts[place + by.size] += carry;
        }

        /** A number above the root of x, from the two or three leading parts of x; x is above 0. */
        void loadAboveRoot(Whole x) {
            int cut = x.size < 2 ? 0 : (x.size - 2) / 2 * 2;
            long lead = 0;
            for (int i = x.size - 1; i >= cut; i--) {
                lead = lead * BASE + x.parts[i];
            }
            long above = rootOfLong(lead) + 1;
            int under = cut / 2;
            clearParts(0, under);
            parts[under] = (int) (above % BASE);
            parts[under + 1] = (int) (above / BASE);
            below = false;
            trimTo(under + 2);
        }

        /** The root of a number of 0 .. 10^18 - 1, bit by bit. */
        private static long rootOfLong(long v) {
            long found = 0;
            for (long bit = 1L << 29; bit > 0; bit >>= 1) {
                long more = found + bit;
                if (more * more <= v) {
                    found = more;
                }
            }
            return found;
        }

        int countDigits() {
            if (size == 0) {
                return 1;
            }
            int top = parts[size - 1];
            int count = 1;
            while (count < DIGITS_OF_PART && top >= TENS[count]) {
                count++;
            }
            return (size - 1) * DIGITS_OF_PART + count;
        }

        /** The digit of a place, the last digit's being 0. */
        int digitOfPlace(int place) {
            return partOrZero(place / DIGITS_OF_PART) / TENS[place % DIGITS_OF_PART] % 10;
        }

        /** The rest from 0 up; m is 1 .. 2^60. */
        long remainder(long m) {
            long rest = 0;
            for (int i = size - 1; i >= 0; i--) {
                for (int factor : FACTORS_OF_BASE) {
                    rest = rest * factor % m;
                }
                rest = (rest + parts[i]) % m;
            }
            return below && rest != 0 ? m - rest : rest;
        }

        long lowBits() {
            long bits = 0;
            for (int i = size - 1; i >= 0; i--) {
                bits = bits * BASE + parts[i];
            }
            return below ? -bits : bits;
        }
    }

    /** Two numbers on Euclid's way down to their greatest common divisor. */
    private static final class Pair {
        private final Whole unused;
        private Whole more;
        private Whole fewer;

        // Where many of Euclid's steps lead at once: to more * a + fewer * b and more * c + fewer * d.
        private long a;
        private long b;
        private long c;
        private long d;

        Pair() {
            unused = new Whole();
            more = new Whole();
            fewer = new Whole();
        }

        /** 0 when both are 0; the number stays as it is until the next call. */
        Whole commonDivisor(Whole x, Whole y) {
            more.take(x);
            fewer.take(y);
            more.below = false;
            fewer.below = false;
            if (more.compareParts(fewer) < 0) {
                change();
            }
            for (int step = 0; step < MOST_EUCLID_STEPS && !fewer.isZero(); step++) {
                foretellSteps();
                // While b is 0, the leading parts could not tell even the first step.
                if (b == 0) {
                    more.divideBy(fewer, unused);
                    change();
                } else {
                    takeForetoldSteps();
                }
            }
            return more;
        }

        private void change() {
            Whole old = more;
            more = fewer;
            fewer = old;
        }

        /**
         * Lehmer's way: Euclid's steps on the leading parts alone, as long as whatever stands behind
         * them can't change a quotient. It saves most of the walks along the long numbers. As both
         * ways to cut the numbers off agree, a, b, c and d stay within the root of 10^18.
         */
        private void foretellSteps() {
            long x = leadOfThree(more);
            long y = leadOfThree(fewer);
            a = 1;
            b = 0;
            c = 0;
            d = 1;
            for (int step = 0; step < MOST_FORETOLD_STEPS; step++) {
                long oneY = y + c;
                long otherY = y + d;
                if (oneY <= 0 || otherY <= 0) {
                    return;
                }
                long times = (x + a) / oneY;
                if (times != (x + b) / otherY) {
                    return;
                }
                long rest = x - times * y;
                x = y;
                y = rest;
                rest = a - times * c;
                a = c;
                c = rest;
                rest = b - times * d;
                b = d;
                d = rest;
            }
        }

        /** The parts of a number at the three highest places of the greater one. */
        private long leadOfThree(Whole number) {
            int top = more.size - 1;
            long two = (long) number.partOrZero(top) * BASE + number.partOrZero(top - 1);
            return two * BASE + number.partOrZero(top - 2);
        }

        private void takeForetoldSteps() {
            int n = more.size;
            int[] ofMore = more.parts;
            int[] ofFewer = fewer.parts;
            long carryMore = 0;
            long carryFewer = 0;
            fewer.clearParts(fewer.size, n);
            for (int i = 0; i < n; i++) {
                long x = ofMore[i];
                long y = ofFewer[i];
                long newMore = a * x + b * y + carryMore + LIFT * BASE;
                long newFewer = c * x + d * y + carryFewer + LIFT * BASE;
                carryMore = newMore / BASE - LIFT;
                carryFewer = newFewer / BASE - LIFT;
                ofMore[i] = (int) (newMore % BASE);
                ofFewer[i] = (int) (newFewer % BASE);
            }
            more.trimTo(n);
            fewer.trimTo(n);
        }
    }
}
