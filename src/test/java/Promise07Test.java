import java.math.BigInteger;

/** Promise 7: product. */
public final class Promise07Test {
    private static final Due DUE = new Due("Promise 7");
    private static final TwoIntoOne PRODUCT = new TwoIntoOne(DUE, "product", BigDesk::product, BigInteger::multiply);
    private static final BigInteger ONE = BigInteger.ONE;
    private static final BigInteger LONGEST = Numbers.LONGEST;

    public static void main(String[] args) {
        DUE.test("a slot holds a product, of 0 and of both signs", Promise07Test::products);
        DUE.test("300 digits are not too many, above 0 and below 0", Promise07Test::fits);
        DUE.test("NONE when a number would have 301 digits, above 0 or below 0", Promise07Test::tooLong);
        DUE.test("slots may be the same one, each taken as it is before the call", PRODUCT::sameSlots);
        DUE.test("slots taken as they are, whatever calls came before", PRODUCT::afterLongNumbers);
        DUE.test("slots 0 and 15 are slots", PRODUCT::firstAndLastSlot);
        DUE.test("NONE, changing nothing, when there is no such slot", PRODUCT::noSuchSlot);
        DUE.end();
    }

    private static void products() {
        PRODUCT.gives(0, 0, 0);
        PRODUCT.gives(0, -7, 0);
        PRODUCT.gives(-7, 0, 0);
        PRODUCT.gives(-7, 1, -7);
        PRODUCT.gives(7, -1, -7);
        PRODUCT.gives(-7, -1, 7);
        PRODUCT.gives(999999, 999999, 999998000001L);
        PRODUCT.gives(Numbers.of(Long.MIN_VALUE), Numbers.of(Long.MIN_VALUE), BigInteger.TWO.pow(126));
    }

    /** 10^300 - 1 is the product of 10^150 - 1 and 10^150 + 1. */
    private static void fits() {
        BigInteger fewer = Numbers.ten(150).subtract(ONE);
        BigInteger more = Numbers.ten(150).add(ONE);
        PRODUCT.gives(fewer, more, LONGEST);
        PRODUCT.gives(fewer.negate(), more.negate(), LONGEST);
        PRODUCT.gives(fewer.negate(), more, LONGEST.negate());
        PRODUCT.gives(fewer, more.negate(), LONGEST.negate());
        PRODUCT.gives(Numbers.ten(150), Numbers.ten(149), Numbers.ten(299));
        PRODUCT.gives(LONGEST, ONE, LONGEST);
        PRODUCT.gives(LONGEST, ONE.negate(), LONGEST.negate());
        PRODUCT.gives(BigInteger.ZERO, LONGEST.negate(), BigInteger.ZERO);
    }

    private static void tooLong() {
        BigInteger ten = Numbers.ten(150);
        PRODUCT.refuses(ten, ten);
        PRODUCT.refuses(ten.negate(), ten);
        PRODUCT.refuses(ten, ten.negate());
        PRODUCT.refuses(ten.negate(), ten.negate());
        PRODUCT.refuses(Numbers.ten(299), BigInteger.TEN);
        PRODUCT.refuses(LONGEST, BigInteger.TWO);
        PRODUCT.refuses(LONGEST, Numbers.of(-2));
        PRODUCT.refuses(LONGEST, LONGEST);
        PRODUCT.refuses(LONGEST, LONGEST.negate());
    }
}
