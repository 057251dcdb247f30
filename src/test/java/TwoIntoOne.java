import java.math.BigInteger;
import java.util.function.BinaryOperator;

/** What is tried with every call that brings the numbers of two slots together in a third. */
final class TwoIntoOne {
    private static final int[] SOME_SLOTS = {3, 7, 11};

    private final Due due;
    private final String name;
    private final Call call;
    private final BinaryOperator<BigInteger> want;

    interface Call {
        int of(BigDesk desk, int a, int b, int to);
    }

    TwoIntoOne(Due due, String name, Call call, BinaryOperator<BigInteger> want) {
        this.due = due;
        this.name = name;
        this.call = call;
        this.want = want;
    }

    void noSuchSlot() {
        Bench.eachWithNoSlot(3, slots -> {
            Bench bench = new Bench(due);
            bench.refuses(Bench.named(name, slots), call.of(bench.desk, slots[0], slots[1], slots[2]));
        });
    }

    void firstAndLastSlot() {
        Bench.eachChoice(Bench.END_SLOTS, 3, slots -> goesWell(new Bench(due).with(0, 1200).with(15, -18), slots));
    }

    void sameSlots() {
        Bench.eachChoice(SOME_SLOTS, 3, slots -> {
            goesWell(new Bench(due).with(3, -1000).with(7, 70).with(11, 6), slots);
        });
        BigInteger more = Numbers.ten(140).add(Numbers.of(10));
        BigInteger fewer = Numbers.ten(100).subtract(Numbers.of(5));
        Bench.eachChoice(new int[] {3, 7}, 3, slots -> goesWell(new Bench(due).with(3, more).with(7, fewer), slots));
    }

    void afterLongNumbers() {
        BigInteger fewer = Numbers.ten(24).subtract(BigInteger.ONE);
        BigInteger more = Numbers.of("1500000000000123456789012");
        Bench.eachChoice(new int[] {3, 7}, 3, slots -> {
            goesWell(new Bench(due).with(3, fewer).with(7, more).afterLongNumbers(), slots);
            goesWell(new Bench(due).with(3, -1000).with(7, 70).afterLongNumbers(), slots);
        });
    }

    private void goesWell(Bench bench, int... slots) {
        BigInteger now = want.apply(bench.held(slots[0]), bench.held(slots[1]));
        bench.holds(Bench.named(name, slots), call.of(bench.desk, slots[0], slots[1], slots[2]), slots[2], now);
    }

    void gives(BigInteger a, BigInteger b, BigInteger now) {
        Bench bench = new Bench(due).with(2, a).with(5, b);
        bench.holds(told(a, b), call.of(bench.desk, 2, 5, 9), 9, now);
    }

    void gives(long a, long b, long now) {
        gives(Numbers.of(a), Numbers.of(b), Numbers.of(now));
    }

    /** Into a slot of its own, and into each of the two that are brought together. */
    void refuses(BigInteger a, BigInteger b) {
        for (int to : new int[] {9, 2, 5}) {
            Bench bench = new Bench(due).with(2, a).with(5, b);
            bench.refuses(told(a, b) + " into slot " + to, call.of(bench.desk, 2, 5, to));
        }
    }

    void refuses(long a, long b) {
        refuses(Numbers.of(a), Numbers.of(b));
    }

    private String told(BigInteger a, BigInteger b) {
        return name + " of " + a + " and " + b;
    }
}
