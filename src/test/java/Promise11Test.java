import java.math.BigInteger;

/** Promise 11: root. */
public final class Promise11Test {
    private static final Due DUE = new Due("Promise 11");
    private static final BigInteger ONE = BigInteger.ONE;

    public static void main(String[] args) {
        DUE.test("NONE, too, when a is below 0", Promise11Test::belowZero);
        DUE.test("of 0, 1 and the next ones", Promise11Test::leastOnes);
        DUE.test("whose square is not above a: at a square, and one before it", Promise11Test::atSquares);
        DUE.test("of the longest numbers", Promise11Test::longest);
        DUE.test("slots may be the same one", Promise11Test::sameSlot);
        DUE.test("slots taken as they are, whatever calls came before", Promise11Test::afterLongNumbers);
        DUE.test("slots 0 and 15 are slots", Promise11Test::firstAndLastSlot);
        DUE.test("NONE, changing nothing, when there is no such slot", Promise11Test::noSuchSlot);
        DUE.end();
    }

    private static void gives(BigInteger a, BigInteger root) {
        Bench bench = new Bench(DUE).with(2, a);
        bench.holds("root of " + a, bench.desk.root(2, 9), 9, root);
    }

    private static void refuses(BigInteger a) {
        for (int to : new int[] {9, 2}) {
            Bench bench = new Bench(DUE).with(2, a);
            bench.refuses("root of " + a + " into slot " + to, bench.desk.root(2, to));
        }
    }

    private static void belowZero() {
        refuses(ONE.negate());
        refuses(Numbers.of(-4));
        refuses(Numbers.of(Long.MIN_VALUE));
        refuses(Numbers.LONGEST.negate());
    }

    private static void leastOnes() {
        int[] roots = {0, 1, 1, 1, 2, 2, 2, 2, 2, 3, 3};
        for (int a = 0; a < roots.length; a++) {
            gives(Numbers.of(a), Numbers.of(roots[a]));
        }
    }

    private static void atSquares() {
        for (int e = 1; e <= 149; e += 4) {
            BigInteger ten = Numbers.ten(e);
            for (BigInteger root : new BigInteger[] {ten.subtract(ONE), ten, ten.add(ONE)}) {
                BigInteger square = root.multiply(root);
                gives(square.subtract(ONE), root.subtract(ONE));
                gives(square, root);
                gives(square.add(root).add(root), root);
            }
        }
    }

    private static void longest() {
        BigInteger root = Numbers.ten(150).subtract(ONE);
        gives(Numbers.LONGEST, root);
        gives(root.multiply(root), root);
        gives(root.multiply(root).subtract(ONE), root.subtract(ONE));
        gives(Numbers.ten(299), Numbers.ten(299).sqrt());
        gives(Numbers.ten(299).subtract(ONE), Numbers.ten(299).subtract(ONE).sqrt());
    }

    private static void sameSlot() {
        Bench bench = new Bench(DUE).with(2, 99);
        bench.holds("root(2, 2) of 99", bench.desk.root(2, 2), 2, 9);
        bench.with(2, Numbers.LONGEST);
        bench.holds("root(2, 2) of 10^300 - 1", bench.desk.root(2, 2), 2, Numbers.ten(150).subtract(ONE));
    }

    private static void afterLongNumbers() {
        BigInteger ten = Numbers.ten(36);
        for (BigInteger a : new BigInteger[] {BigInteger.ZERO, ONE, Numbers.of(999999), ten.subtract(ONE), ten}) {
            Bench bench = new Bench(DUE).with(2, a).afterLongNumbers();
            bench.holds("root of " + a, bench.desk.root(2, 9), 9, a.sqrt());
        }
    }

    private static void firstAndLastSlot() {
        Bench.eachChoice(Bench.END_SLOTS, 2, slots -> {
            Bench bench = new Bench(DUE).with(0, 99).with(15, 120);
            long root = slots[0] == 0 ? 9 : 10;
            bench.holds(Bench.named("root", slots), bench.desk.root(slots[0], slots[1]), slots[1], root);
        });
    }

    private static void noSuchSlot() {
        Bench.eachWithNoSlot(2, slots -> {
            Bench bench = new Bench(DUE);
            bench.refuses(Bench.named("root", slots), bench.desk.root(slots[0], slots[1]));
        });
    }
}
