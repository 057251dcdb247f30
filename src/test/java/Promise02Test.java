import java.math.BigInteger;

/** Promise 2: set. */
public final class Promise02Test {
    private static final Due DUE = new Due("Promise 2");

    public static void main(String[] args) {
        DUE.test("a slot holds v: the least and the greatest long", Promise02Test::leastAndGreatest);
        DUE.test("a slot holds v: 0 and next to it, and powers of ten and next to them", Promise02Test::between);
        DUE.test("a slot holds v, however long a number it held", Promise02Test::afterLong);
        DUE.test("slots 0 and 15 are slots", Promise02Test::firstAndLastSlot);
        DUE.test("NONE, changing nothing, when there is no such slot", Promise02Test::noSuchSlot);
        DUE.end();
    }

    private static void holds(int slot, long v) {
        Bench bench = new Bench(DUE);
        bench.holds("set(" + slot + ", " + v + ")", bench.desk.set(slot, v), slot, v);
        DUE.is("digits of " + v, BigInteger.valueOf(v), Numbers.read(bench.desk, slot));
    }

    private static void leastAndGreatest() {
        holds(4, Long.MIN_VALUE);
        holds(4, Long.MIN_VALUE + 1);
        holds(4, Long.MAX_VALUE);
        holds(4, Long.MAX_VALUE - 1);
    }

    private static void between() {
        long ten = 1;
        for (int e = 0; e <= 18; e++) {
            for (long v : new long[] {ten - 1, ten, ten + 1}) {
                holds(4, v);
                holds(4, -v);
            }
            ten *= 10;
        }
    }

    private static void afterLong() {
        for (long v : new long[] {0, 1, -1, Long.MIN_VALUE, Long.MAX_VALUE}) {
            for (BigInteger before : new BigInteger[] {Numbers.LONGEST, Numbers.LONGEST.negate()}) {
                Bench bench = new Bench(DUE).with(4, before);
                bench.holds("set(4, " + v + ")", bench.desk.set(4, v), 4, v);
            }
        }
    }

    private static void firstAndLastSlot() {
        for (int slot : Bench.END_SLOTS) {
            holds(slot, 5);
            holds(slot, Long.MIN_VALUE);
        }
    }

    private static void noSuchSlot() {
        for (int slot : Bench.NO_SLOTS) {
            for (long v : new long[] {0, 5, Long.MIN_VALUE, Long.MAX_VALUE}) {
                Bench bench = new Bench(DUE);
                bench.refuses("set(" + slot + ", " + v + ")", bench.desk.set(slot, v));
            }
        }
    }
}
