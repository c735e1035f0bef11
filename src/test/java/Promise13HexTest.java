/** Promise 13, and what a prints. */
public final class Promise13HexTest {
    private static final double LEAST = Double.MIN_VALUE;
    private static final double NORMAL = Double.MIN_NORMAL;
    private static final double INFINITE = Double.POSITIVE_INFINITY;

    private static Check check = new Check("Promise 13, a");

    public static void main(String[] args) {
        whole();
        belowNormal();
        zero();
        precisions();
        evenOne();
        carried();
        madeNormal();
        floats();
        flags();
        specials();
        check.done();
    }

    private static void prints(String due, String format, Object... values) {
        Promise13Test.prints(check, due, format, values);
    }

    private static void whole() {
        check.sentence("without precision: 0x1. and the fraction in hexadecimal without zeros at the end (one at least)"
            + " p and the power of two");
        prints("0x1.0p0|-0x1.0p0|0x1.8p1|0x1.0p-1|0x1.0p10", "%a|%a|%a|%a|%a", 1.0, -1.0, 3.0, 0.5, 1024.0);
        prints("0x1.999999999999ap-4|0X1.999999999999AP-4", "%a|%A", 0.1, 0.1);
        prints("0x1.fffffffffffffp1023|0x1.0p1023|0x1.0000000000001p0", "%a|%a|%a", Double.MAX_VALUE, 0x1p1023,
            Math.nextUp(1.0));
        prints("0x1.00001p0|0x1.1p0|0x1.01p0|0x1.123456789abcp0", "%a|%a|%a|%a", 0x1.00001p0, 0x1.1p0, 0x1.01p0,
            0x1.123456789abcp0);
    }

    private static void belowNormal() {
        check.sentence("below the normal ones 0x0. and the fraction, p-1022");
        prints("0x1.0p-1022|0x1.0000000000001p-1022|0x0.fffffffffffffp-1022", "%a|%a|%a", NORMAL, Math.nextUp(NORMAL),
            Math.nextDown(NORMAL));
        prints("0x0.0000000000001p-1022|0x0.8p-1022|0x0.00000001p-1022|-0x0.4p-1022", "%a|%a|%a|%a", LEAST, 0x1p-1023,
            0x1p-1054, -0x1p-1024);
    }

    private static void zero() {
        check.sentence("0x0.0p0");
        prints("0x0.0p0|-0x0.0p0|0X0.0P0", "%a|%a|%A", 0.0, -0.0, 0.0);
        check.sentence("With precision p: 0x0. and zeros, p0 of 0");
        prints("0x0.0p0|0x0.0p0|0x0.00p0|0x0.000000000000p0|0x0.0p0|-0x0.000p0", "%.0a|%.1a|%.2a|%.12a|%.13a|%.3a", 0.0, 0.0,
            0.0, 0.0, 0.0, -0.0);
    }

    private static void precisions() {
        check.sentence("With precision p (0: 1; 13 or more: as without) just p digits");
        prints("0x1.0p0|0x1.0p0|0x1.00p0|0x1.00000000000p0|0x1.000000000000p0", "%.0a|%.1a|%.2a|%.11a|%.12a", 1.0, 1.0, 1.0,
            1.0, 1.0);
        prints("0x1.0p0|0x1.0p0|0x1.0p0", "%.13a|%.14a|%.9999a", 1.0, 1.0, 1.0);
        prints("0x1.ap-4|0x1.ap-4|0x1.9ap-4|0x1.99999999999ap-4|0x1.999999999999ap-4|0x1.999999999999ap-4",
            "%.0a|%.1a|%.2a|%.12a|%.13a|%.14a", 0.1, 0.1, 0.1, 0.1, 0.1, 0.1);
        prints("0x0.0000000000001p-1022|0x0.0000000000001p-1022|0x1.000000000000p-1074", "%.13a|%.99a|%.12a", LEAST, LEAST,
            LEAST);
    }

    private static void evenOne() {
        check.sentence("rounded to the nearest, of two the even one");
        prints("0x1.0p0|0x1.2p0|0x1.2p0|0x1.4p0", "%.1a|%.1a|%.1a|%.1a", 0x1.08p0, 0x1.18p0, 0x1.28p0, 0x1.38p0);
        prints("0x1.1p0|0x1.0p0|0x1.2p0|0x1.1p0", "%.1a|%.1a|%.1a|%.1a", Math.nextUp(0x1.08p0), Math.nextDown(0x1.08p0),
            Math.nextUp(0x1.18p0), Math.nextDown(0x1.18p0));
        prints("0x1.000000000000p0|0x1.000000000002p0|0x1.000000000001p0|0x1.000000000000p0", "%.12a|%.12a|%.12a|%.12a",
            0x1.0000000000008p0, 0x1.0000000000018p0, 0x1.0000000000009p0, 0x1.0000000000007p0);
        prints("0x1.e0p0|0x1.e2p0", "%.2a|%.2a", 0x1.e08p0, 0x1.e18p0);
    }

    private static void carried() {
        check.sentence("0x2. becomes 0x1. with a power one more");
        prints("0x1.0p1|0x1.fp0|0x1.0p1|0x1.0p0", "%.1a|%.1a|%.0a|%.1a", 0x1.f8p0, Math.nextDown(0x1.f8p0),
            Math.nextDown(2.0), Math.nextDown(1.0));
        prints("0x1.000000000000p1|0x1.ffffffffffffp0", "%.12a|%.12a", 0x1.ffffffffffff8p0, 0x1.ffffffffffff7p0);
        prints("0x1.0p1024|0x1.00p1024|0x1.fffffffffffffp1023", "%.1a|%.2a|%.13a", Double.MAX_VALUE, Double.MAX_VALUE,
            Double.MAX_VALUE);
        prints("0x1.0p-1|0x1.0p0", "%.1a|%.1a", 0x1.f8p-2, 0x1.f8p-1);
    }

    private static void madeNormal() {
        check.sentence("(those below the normal ones are made normal first");
        prints("0x1.0p-1074|0x1.0p-1073|0x1.800p-1073|0x1.4p-1072", "%.1a|%.1a|%.3a|%.1a", LEAST, 2 * LEAST, 3 * LEAST,
            5 * LEAST);
        prints("0x1.0p-1022|0x1.0p-1022|0x1.0p-1023|0x1.ffffffffffffp-1023", "%.1a|%.1a|%.1a|%.12a", NORMAL,
            Math.nextDown(NORMAL), 0x1p-1023, NORMAL - 5 * LEAST);
        prints("0x1.0p-1070|0x1.2p-1070|-0x1.1p-1070", "%.1a|%.1a|%.1a", 0x1.0p-1070, 18 * LEAST, -17 * LEAST);
    }

    private static void floats() {
        check.sentence("(In a a FLOAT is taken as the DOUBLE of its value.)");
        prints("0x1.99999ap-4|0x1.0p-149|0x1.fffffep127|0x1.0p-126|0x1.fffffcp-127", "%a|%a|%a|%a|%a", 0.1f, Float.MIN_VALUE,
            Float.MAX_VALUE, Float.MIN_NORMAL, Math.nextDown(Float.MIN_NORMAL));
        prints("0x1.ap-4|0x1.0p128|0x0.0p0|-0x0.0p0|NaN|-Infinity", "%.1a|%.1a|%a|%a|%a|%a", 0.1f, Float.MAX_VALUE, 0f, -0f,
            Float.NaN, Float.NEGATIVE_INFINITY);
        prints("0x1.8p-148|0x1.99999a000000p-4", "%a|%.12a", 3 * Float.MIN_VALUE, 0.1f);
    }

    private static void flags() {
        check.sentence("+ puts + before what is not negative, blank a blank; 0 puts zeros behind the sign, (, 0x");
        prints("+0x1.0p0|-0x1.0p0|+0x0.0p0|-0x0.0p0", "%+a|%+a|%+a|%+a", 1.0, -1.0, 0.0, -0.0);
        prints(" 0x1.0p0|-0x1.0p0| 0x0.0p0", "% a|% a|% a", 1.0, -1.0, 0.0);
        prints("0x1.0p0|0x1.0p0|0x01.0p0|0x0001.0p0", "%06a|%07a|%08a|%010a", 1.0, 1.0, 1.0, 1.0);
        prints("-0x1.0p0|-0x01.0p0|+0x01.0p0| 0x01.0p0|0X01.0P0", "%08a|%09a|%+09a|% 09a|%08A", -1.0, -1.0, 1.0, 1.0, 1.0);
        prints("0x1.0p0| 0x1.0p0|0x1.0p0 |-0x1.0p0 ", "%7a|%8a|%-8a|%-9a", 1.0, 1.0, 1.0, -1.0);
        prints("0x" + "0".repeat(9992) + "1.0p0", "%09999a", 1.0);
        check.sentence("a has one always");
        prints("0x1.0p0|0x1.0p0|0x0.0p0", "%#a|%#.0a|%#.0a", 1.0, 1.0, 0.0);
    }

    private static void specials() {
        check.sentence("NaN, Infinity: so, with signs as told (NaN: none, no +), 0 counts for nothing then (blanks instead)");
        prints("NaN|NaN|NaN|  NaN|  NaN|NaN  |NAN", "%a|%+a|% a|%5a|%05a|%-5a|%A", Double.NaN, Double.NaN, Double.NaN,
            Double.NaN, Double.NaN, Double.NaN, Double.NaN);
        prints("Infinity|-Infinity|+Infinity| Infinity|INFINITY", "%a|%a|%+a|% a|%A", INFINITE, -INFINITE, INFINITE, INFINITE,
            INFINITE);
        prints("  Infinity| -Infinity| +Infinity|Infinity  |Infinity", "%010a|%010a|%+010a|%-10a|%.1a", INFINITE, -INFINITE,
            INFINITE, INFINITE, INFINITE);
    }
}
