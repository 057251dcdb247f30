import java.math.BigInteger;

/** Promises 5 to 12: sum, less, product, over, left, divisor, root, power. */
public final class ArithmeticTest {
    private static final Due DUE = new Due("ArithmeticTest");
    private static final BigInteger ONE = BigInteger.ONE;

    private interface Call {
        int of(BigDesk desk, int a, int b, int to);
    }

    private static final Call SUM = (desk, a, b, to) -> desk.sum(a, b, to);
    private static final Call LESS = (desk, a, b, to) -> desk.less(a, b, to);
    private static final Call PRODUCT = (desk, a, b, to) -> desk.product(a, b, to);
    private static final Call OVER = (desk, a, b, to) -> desk.over(a, b, to);
    private static final Call LEFT = (desk, a, b, to) -> desk.left(a, b, to);
    private static final Call DIVISOR = (desk, a, b, to) -> desk.divisor(a, b, to);

    public static void main(String[] args) {
        sums();
        differences();
        products();
        quotients();
        rests();
        divisionBySmallAndGreat();
        commonDivisors();
        shortAfterLong();
        noSuchSlots();
        sameSlots();
        roots();
        rootRefuses();
        powers();
        powerAtTheLimit();
        powerRefuses();
        DUE.end();
    }

    private static BigInteger ten(int e) {
        return BigInteger.TEN.pow(e);
    }

    /** want is null where the call must answer NONE and leave the slot as it is. */
    private static void check(String name, Call call, BigInteger a, BigInteger b, BigInteger want) {
        BigDesk desk = new BigDesk();
        Numbers.enter(desk, 0, a);
        Numbers.enter(desk, 1, b);
        desk.set(2, 77);
        String text = name + "(" + a + ", " + b + ")";
        DUE.is(text, want == null ? -1 : 1, call.of(desk, 0, 1, 2));
        DUE.is(text + " in its slot", want == null ? BigInteger.valueOf(77) : want, Numbers.read(desk, 2));
    }

    private static void check(String name, Call call, long a, long b, long want) {
        check(name, call, BigInteger.valueOf(a), BigInteger.valueOf(b), BigInteger.valueOf(want));
    }

    private static void sums() {
        check("sum", SUM, 2, 3, 5);
        check("sum", SUM, 2, -3, -1);
        check("sum", SUM, -2, 3, 1);
        check("sum", SUM, -2, -3, -5);
        check("sum", SUM, 5, -5, 0);
        check("sum", SUM, 0, -5, -5);
        check("sum", SUM, 999999, 1, 1000000);
        check("sum", SUM, 1000000, -1, 999999);
        check("sum", SUM, Numbers.LONGEST.subtract(ONE), ONE, Numbers.LONGEST);
        check("sum", SUM, Numbers.LONGEST, ONE, null);
        check("sum", SUM, Numbers.LONGEST.negate(), ONE.negate(), null);
        check("sum", SUM, Numbers.LONGEST, Numbers.LONGEST, null);
        check("sum", SUM, Numbers.LONGEST, Numbers.LONGEST.negate(), BigInteger.ZERO);
        check("sum", SUM, ten(299), ten(299), ten(299).shiftLeft(1));
    }

    private static void differences() {
        check("less", LESS, 2, 3, -1);
        check("less", LESS, 3, 2, 1);
        check("less", LESS, -2, -3, 1);
        check("less", LESS, -3, 2, -5);
        check("less", LESS, 0, 7, -7);
        check("less", LESS, 7, 0, 7);
        check("less", LESS, 0, 0, 0);
        check("less", LESS, -7, -7, 0);
        check("less", LESS, ten(299), ONE, ten(299).subtract(ONE));
        check("less", LESS, Numbers.LONGEST.negate(), ONE, null);
        check("less", LESS, Numbers.LONGEST, ONE.negate(), null);
        check("less", LESS, ONE.negate(), Numbers.LONGEST.subtract(ONE), Numbers.LONGEST.negate());
    }

    private static void products() {
        check("product", PRODUCT, 6, 7, 42);
        check("product", PRODUCT, -6, 7, -42);
        check("product", PRODUCT, -6, -7, 42);
        check("product", PRODUCT, -6, 0, 0);
        check("product", PRODUCT, 0, -6, 0);
        check("product", PRODUCT, ten(150), ten(149), ten(299));
        check("product", PRODUCT, ten(150), ten(150), null);
        check("product", PRODUCT, Numbers.LONGEST, ONE.negate(), Numbers.LONGEST.negate());
        check("product", PRODUCT, Numbers.LONGEST, Numbers.LONGEST, null);
        check("product", PRODUCT, Numbers.LONGEST, BigInteger.ZERO, BigInteger.ZERO);
        BigInteger nines = ten(150).subtract(ONE);
        check("product", PRODUCT, nines, nines, nines.multiply(nines));
        check("product", PRODUCT, nines.negate(), nines, nines.multiply(nines).negate());
    }

    private static void quotients() {
        check("over", OVER, 7, 2, 3);
        check("over", OVER, -7, 2, -3);
        check("over", OVER, 7, -2, -3);
        check("over", OVER, -7, -2, 3);
        check("over", OVER, 1, 2, 0);
        check("over", OVER, -1, 2, 0);
        check("over", OVER, 0, -2, 0);
        check("over", OVER, BigInteger.TEN, BigInteger.ZERO, null);
        check("over", OVER, BigInteger.ZERO, BigInteger.ZERO, null);
        check("over", OVER, Numbers.LONGEST, ONE.negate(), Numbers.LONGEST.negate());
        check("over", OVER, Numbers.LONGEST, Numbers.LONGEST, ONE);
        check("over", OVER, Numbers.LONGEST, ten(299), BigInteger.valueOf(9));
        check("over", OVER, ten(299), Numbers.LONGEST, BigInteger.ZERO);
    }

    private static void rests() {
        check("left", LEFT, 7, 2, 1);
        check("left", LEFT, -7, 2, -1);
        check("left", LEFT, 7, -2, 1);
        check("left", LEFT, -7, -2, -1);
        check("left", LEFT, 6, -2, 0);
        check("left", LEFT, -1, 2, -1);
        check("left", LEFT, 0, 5, 0);
        check("left", LEFT, BigInteger.TEN, BigInteger.ZERO, null);
        check("left", LEFT, BigInteger.ZERO, BigInteger.ZERO, null);
        check("left", LEFT, Numbers.LONGEST, ten(299), Numbers.LONGEST.remainder(ten(299)));
        check("left", LEFT, ten(299).negate(), Numbers.LONGEST, ten(299).negate());
    }

    /** Divisors whose leading digits tell little of the quotient's, with dividends next to their multiples. */
    private static void divisionBySmallAndGreat() {
        String[] divisors = {"1", "2", "999999", "1000000", "1000001", "1999999999999", "1000000999999",
            "1000000000000999999", "1999999999999999999999999", "999999999999999999000000000001",
            "1000001999999999999999999999999999999", "123456789012345678901234567890123456789"};
        String[] quotients = {"1", "999999", "1000000", "999999999999", "999998999999000001",
            "500000500000500000500000", "1000000000000000000000000000001"};
        for (String d : divisors) {
            for (String q : quotients) {
                BigInteger divisor = Numbers.of(d);
                BigInteger multiple = divisor.multiply(Numbers.of(q));
                BigInteger last = multiple.add(divisor).subtract(ONE);
                for (BigInteger a : new BigInteger[] {multiple.subtract(ONE), multiple, last}) {
                    check("over", OVER, a, divisor, a.divide(divisor));
                    check("left", LEFT, a, divisor, a.remainder(divisor));
                }
            }
        }
    }

    private static void commonDivisors() {
        check("divisor", DIVISOR, 12, 18, 6);
        check("divisor", DIVISOR, -12, 18, 6);
        check("divisor", DIVISOR, 12, -18, 6);
        check("divisor", DIVISOR, -12, -18, 6);
        check("divisor", DIVISOR, 0, 0, 0);
        check("divisor", DIVISOR, 0, -5, 5);
        check("divisor", DIVISOR, -5, 0, 5);
        check("divisor", DIVISOR, 1, 999999, 1);
        check("divisor", DIVISOR, 17, 17, 17);
        check("divisor", DIVISOR, Numbers.LONGEST.negate(), BigInteger.ZERO, Numbers.LONGEST);
        check("divisor", DIVISOR, ten(299), BigInteger.TWO.pow(990), BigInteger.TWO.pow(299));
        BigInteger older = BigInteger.ZERO;
        BigInteger newer = ONE;
        while (Numbers.fits(older.add(newer))) {
            BigInteger next = older.add(newer);
            older = newer;
            newer = next;
        }
        // Neighbours among these need more of Euclid's steps than any other numbers of their length.
        check("divisor", DIVISOR, older, newer, ONE);
        BigInteger common = ten(100).add(ONE);
        BigInteger a = common.multiply(ten(199).subtract(ONE));
        BigInteger b = common.multiply(ten(199).subtract(BigInteger.TWO));
        check("divisor", DIVISOR, a, b, common);
    }

    /** What a call on long numbers leaves inside the desk must not show in a later call on short ones. */
    private static void shortAfterLong() {
        BigInteger shorter = Numbers.of("999999999999999999999999");
        BigInteger longer = Numbers.of("1500000000000123456789012");
        Call[] calls = {SUM, LESS, PRODUCT, OVER, LEFT, DIVISOR};
        BigInteger[] wants = {shorter.add(longer), shorter.subtract(longer), shorter.multiply(longer),
            BigInteger.ZERO, shorter, shorter.gcd(longer)};
        for (int i = 0; i < calls.length; i++) {
            BigDesk desk = new BigDesk();
            Numbers.enter(desk, 0, Numbers.LONGEST);
            desk.root(0, 1);
            desk.product(1, 1, 2);
            desk.over(0, 1, 2);
            desk.divisor(0, 0, 2);
            Numbers.enter(desk, 3, shorter);
            Numbers.enter(desk, 4, longer);
            DUE.is("call " + i + " after long numbers", 1, calls[i].of(desk, 3, 4, 2));
            DUE.is("call " + i + " after long numbers, in its slot", wants[i], Numbers.read(desk, 2));
        }
    }

    private static void noSuchSlots() {
        Call[] calls = {SUM, LESS, PRODUCT, OVER, LEFT, DIVISOR};
        int[] wrong = {-1, 16, Integer.MIN_VALUE, Integer.MAX_VALUE};
        for (int i = 0; i < calls.length; i++) {
            BigDesk desk = new BigDesk();
            for (int slot = 0; slot < 16; slot++) {
                desk.set(slot, slot + 3);
            }
            for (int slot : wrong) {
                DUE.is("call " + i + " (" + slot + ", 1, 2)", -1, calls[i].of(desk, slot, 1, 2));
                DUE.is("call " + i + " (1, " + slot + ", 2)", -1, calls[i].of(desk, 1, slot, 2));
                DUE.is("call " + i + " (1, 2, " + slot + ")", -1, calls[i].of(desk, 1, 2, slot));
            }
            for (int slot = 0; slot < 16; slot++) {
                DUE.is("slot " + slot + " after refused calls", slot + 3, desk.low(slot));
            }
        }
    }

    private static void sameSlots() {
        Call[] calls = {SUM, LESS, PRODUCT, OVER, LEFT, DIVISOR};
        long[] allOne = {24, 0, 144, 1, 0, 12};
        long[] intoFirst = {17, 7, 60, 2, 2, 1};
        for (int i = 0; i < calls.length; i++) {
            BigDesk desk = new BigDesk();
            desk.set(4, 12);
            DUE.is("call " + i + " (4, 4, 4)", 1, calls[i].of(desk, 4, 4, 4));
            DUE.is("call " + i + " (4, 4, 4) in slot 4", allOne[i], desk.low(4));
            desk.set(4, 12);
            desk.set(5, 5);
            calls[i].of(desk, 4, 5, 4);
            DUE.is("call " + i + " (4, 5, 4) in slot 4", intoFirst[i], desk.low(4));
            desk.set(4, 12);
            calls[i].of(desk, 4, 5, 5);
            DUE.is("call " + i + " (4, 5, 5) in slot 5", intoFirst[i], desk.low(5));
            DUE.is("call " + i + " (4, 5, 5) in slot 4", 12, desk.low(4));
        }
    }

    private static void checkRoot(BigInteger a) {
        BigDesk desk = new BigDesk();
        Numbers.enter(desk, 0, a);
        DUE.is("root(" + a + ")", 1, desk.root(0, 1));
        DUE.is("root(" + a + ") in its slot", a.sqrt(), Numbers.read(desk, 1));
    }

    private static void roots() {
        for (int a = 0; a < 50; a++) {
            checkRoot(BigInteger.valueOf(a));
        }
        checkRoot(Numbers.LONGEST);
        for (int e = 1; e <= 150; e++) {
            BigInteger seventh = ten(e).divide(BigInteger.valueOf(7));
            BigInteger[] roots = {ten(e).subtract(ONE), ten(e - 1), ten(e - 1).add(ONE), seventh};
            for (BigInteger root : roots) {
                BigInteger square = root.multiply(root);
                checkRoot(square);
                checkRoot(square.subtract(ONE).max(BigInteger.ZERO));
                checkRoot(square.add(root).add(root));
            }
        }
        BigDesk desk = new BigDesk();
        desk.set(0, 99);
        DUE.is("root(0, 0)", 1, desk.root(0, 0));
        DUE.is("root(0, 0) in its slot", 9, desk.low(0));
    }

    private static void rootRefuses() {
        BigDesk desk = new BigDesk();
        desk.set(0, -1);
        desk.set(1, 5);
        DUE.is("root of -1", -1, desk.root(0, 1));
        DUE.is("root(-1, 1)", -1, desk.root(-1, 1));
        DUE.is("root(16, 1)", -1, desk.root(16, 1));
        DUE.is("root(1, -1)", -1, desk.root(1, -1));
        DUE.is("root(1, 16)", -1, desk.root(1, 16));
        DUE.is("slot 1 unchanged", 5, desk.low(1));
        DUE.is("slot 0 unchanged", -1, desk.low(0));
    }

    private static void checkPower(long a, int e) {
        BigDesk desk = new BigDesk();
        desk.set(0, a);
        desk.set(1, 77);
        BigInteger power = BigInteger.valueOf(a).pow(e);
        boolean fits = Numbers.fits(power);
        DUE.is("power(" + a + ", " + e + ")", fits ? 1 : -1, desk.power(0, e, 1));
        BigInteger now = fits ? power : BigInteger.valueOf(77);
        DUE.is("power(" + a + ", " + e + ") in its slot", now, Numbers.read(desk, 1));
    }

    private static void powers() {
        for (long a = -12; a <= 12; a++) {
            for (int e : new int[] {0, 1, 2, 3, 10, 63, 64, 255, 256, 299, 300, 511, 512, 513, 996, 999, 1000}) {
                checkPower(a, e);
            }
        }
        BigDesk desk = new BigDesk();
        desk.set(0, 3);
        DUE.is("power(0, 5, 0)", 1, desk.power(0, 5, 0));
        DUE.is("power(0, 5, 0) in its slot", 243, desk.low(0));
    }

    private static void powerAtTheLimit() {
        for (long a : new long[] {2, 3, 7, -7, 10, -10, 999, 1000, 1001, 999999, 1000000, 1000001, Long.MIN_VALUE}) {
            int e = 0;
            while (Numbers.fits(BigInteger.valueOf(a).pow(e + 1))) {
                e++;
            }
            checkPower(a, e);
            checkPower(a, e + 1);
        }
    }

    private static void powerRefuses() {
        BigDesk desk = new BigDesk();
        desk.set(0, 1);
        desk.set(1, 5);
        for (int e : new int[] {-1, 1001, Integer.MIN_VALUE, Integer.MAX_VALUE}) {
            DUE.is("power(0, " + e + ", 1)", -1, desk.power(0, e, 1));
        }
        DUE.is("power(-1, 2, 1)", -1, desk.power(-1, 2, 1));
        DUE.is("power(16, 2, 1)", -1, desk.power(16, 2, 1));
        DUE.is("power(0, 2, -1)", -1, desk.power(0, 2, -1));
        DUE.is("power(0, 2, 16)", -1, desk.power(0, 2, 16));
        DUE.is("slot 1 unchanged", 5, desk.low(1));
    }
}
