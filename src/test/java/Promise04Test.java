import java.math.BigInteger;

/** Promise 4: copy. */
public final class Promise04Test {
    private static final Due DUE = new Due("Promise 4");

    public static void main(String[] args) {
        DUE.test("a slot holds what another one holds, of any length and sign", Promise04Test::anyNumber);
        DUE.test("a slot holds it as it is at the call", Promise04Test::sourceChangesLater);
        DUE.test("slots that a call names may be the same one", Promise04Test::sameSlot);
        DUE.test("slots 0 and 15 are slots", Promise04Test::firstAndLastSlot);
        DUE.test("NONE, changing nothing, when there is no such slot", Promise04Test::noSuchSlot);
        DUE.end();
    }

    private static final BigInteger[] NUMBERS = {BigInteger.ZERO, BigInteger.ONE, BigInteger.ONE.negate(),
        Numbers.LONGEST, Numbers.LONGEST.negate(), Numbers.ten(299), Numbers.ten(299).negate()};

    private static void holds(Bench bench, int from, int to) {
        bench.holds(Bench.named("copy", from, to), bench.desk.copy(from, to), to, bench.held(from));
    }

    private static void anyNumber() {
        for (BigInteger number : NUMBERS) {
            holds(new Bench(DUE).with(3, number), 3, 8);
            holds(new Bench(DUE).with(8, number), 3, 8);
        }
    }

    private static void sourceChangesLater() {
        Bench bench = new Bench(DUE).with(3, Numbers.LONGEST.negate());
        holds(bench, 3, 8);
        bench.holds("set(3, 2)", bench.desk.set(3, 2), 3, 2);
        holds(bench, 3, 8);
        bench.holds("digit(8, 5)", bench.desk.digit(8, 5), 8, 25);
    }

    private static void sameSlot() {
        for (BigInteger number : NUMBERS) {
            holds(new Bench(DUE).with(3, number), 3, 3);
        }
    }

    private static void firstAndLastSlot() {
        Bench.eachChoice(Bench.END_SLOTS, 2, slots -> holds(new Bench(DUE), slots[0], slots[1]));
    }

    private static void noSuchSlot() {
        Bench.eachWithNoSlot(2, slots -> {
            Bench bench = new Bench(DUE);
            bench.refuses(Bench.named("copy", slots), bench.desk.copy(slots[0], slots[1]));
        });
    }
}
