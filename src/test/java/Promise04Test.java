import java.util.Map;

/** Promise 4: print. */
public final class Promise04Test {
    private static final long LEAST_NORMAL = 0x0010000000000000L;
    private static final long GREATEST = 0x7fefffffffffffffL;
    private static final long INFINITY = 0x7ff0000000000000L;
    private static final long SIGN = Long.MIN_VALUE;

    private static Check check = new Check("Promise 4");
    private static Subject x = new Subject();

    public static void main(String[] args) {
        notANumber();
        signs();
        plainOrNot();
        ordinary();
        twoDigits();
        readBack();
        evenOne();
        unevenNeighbours();
        smallest();
        result();
        check.done();
    }

    private static void prints(long bits, String due) {
        if (x.calls() > Subject.PROMISED_CALLS - 10) {
            x = new Subject();
        }
        String told = "print(0x" + Long.toHexString(bits) + ")";
        check.answers(told, due.length(), () -> x.print(bits));
        check.due(told, x.result(), due);
    }

    private static void prints(double v, String due) {
        prints(Double.doubleToRawLongBits(v), due);
    }

    private static void notANumber() {
        check.sentence("All NaN are one; PRINTED: NaN");
        long[] all = {INFINITY + 1, INFINITY | 1L << 51, INFINITY + (1L << 51) - 1, Long.MAX_VALUE, SIGN | INFINITY + 1,
            SIGN | INFINITY | 1L << 51, -1L};
        for (long bits : all) {
            prints(bits, "NaN");
        }
        check.sentence("Infinity; what is one below it is finite");
        prints(INFINITY, "Infinity");
        prints(INFINITY - 1, "1.7976931348623157E308");
    }

    private static void signs() {
        check.sentence("a - if the sign is set; Infinity; 0.0");
        prints(SIGN | INFINITY, "-Infinity");
        prints(0L, "0.0");
        prints(SIGN, "-0.0");
        prints(1L, "4.9E-324");
        prints(SIGN | 1, "-4.9E-324");
        prints(SIGN | GREATEST, "-1.7976931348623157E308");
        prints(-1.0, "-1.0");
    }

    private static void plainOrNot() {
        check.sentence("for p -2 .. 7: as a plain decimal, with at least one digit before and behind the point");
        prints(0.001, "0.001");
        prints(Math.nextUp(0.001), "0.0010000000000000002");
        prints(0.0099, "0.0099");
        prints(0.01, "0.01");
        prints(0.1, "0.1");
        prints(Math.nextDown(1.0), "0.9999999999999999");
        prints(1.0, "1.0");
        prints(10.0, "10.0");
        prints(1000000.0, "1000000.0");
        prints(9999999.0, "9999999.0");
        prints(Math.nextDown(1e7), "9999999.999999998");
        prints(-1234567.5, "-1234567.5");
        check.sentence("else d1 . d2 .. (0 if there is only one) E and p - 1");
        prints(Math.nextDown(0.001), "9.999999999999998E-4");
        prints(0.0009, "9.0E-4");
        prints(0.0001, "1.0E-4");
        prints(1e7, "1.0E7");
        prints(Math.nextUp(1e7), "1.0000000000000002E7");
        prints(12345678.0, "1.2345678E7");
        prints(1e9, "1.0E9");
        prints(1e10, "1.0E10");
        prints(1e99, "1.0E99");
        prints(1e100, "1.0E100");
        prints(1e-9, "1.0E-9");
        prints(1e-10, "1.0E-10");
        prints(1e-100, "1.0E-100");
    }

    private static void ordinary() {
        check.sentence("the decimals that ROUND to its size; n the least number of digits that one of R has");
        prints(0.3, "0.3");
        prints(4.35, "4.35");
        prints(100.0, "100.0");
        prints(5e-5, "5.0E-5");
        prints(8.41e21, "8.41E21");
        prints(1.0 / 3, "0.3333333333333333");
        prints(2.0 / 3, "0.6666666666666666");
        prints(Math.PI, "3.141592653589793");
        prints(0.1 + 0.2, "0.30000000000000004");
        prints(0x4340000000000001L, "9.007199254740994E15");
        prints(2.0E-3, "0.002");
        prints(1.1E-5, "1.1E-5");
    }

    private static void twoDigits() {
        check.sentence("but 2 if that is 1; of those of R with at most n digits the one that is nearest");
        prints(1L, "4.9E-324");
        prints(2L, "9.9E-324");
        prints(3L, "1.5E-323");
        prints(4L, "2.0E-323");
        prints(5L, "2.5E-323");
        prints(6L, "3.0E-323");
        prints(20L, "9.9E-323");
        prints(21L, "1.04E-322");
        prints(2e23, "2.0E23");
        prints(2e-323, "2.0E-323");
    }

    /** A border itself counts if c is even. */
    private static void readBack() {
        check.sentence("R are the decimals (numbers d 10^k) that ROUND to its size");
        prints(0x44a52d02c7e14af5L, "4.999999999999999E22");
        prints(0x44a52d02c7e14af6L, "5.0E22");
        prints(0x44a52d02c7e14af7L, "5.0000000000000004E22");
        prints(0x44ada56a4b0835bfL, "6.9999999999999996E22");
        prints(0x44ada56a4b0835c0L, "7.0E22");
        prints(0x44b52d02c7e14af5L, "9.999999999999997E22");
        prints(0x44b52d02c7e14af6L, "1.0E23");
        prints(0x44b52d02c7e14af7L, "1.0000000000000001E23");
    }

    private static void evenOne() {
        check.sentence("of two the one whose d (of n digits) is even");
        prints(0x4310000000000001L, "1.1258999068426242E15");
        prints(0x4310000000000003L, "1.1258999068426248E15");
        prints(0x4310000000000005L, "1.1258999068426252E15");
        prints(0x4300000000000002L, "5.629499534213122E14");
        prints(0x4300000000000006L, "5.629499534213128E14");
    }

    /** Below a power of two the numbers lie closer: there the nearest decimal of n digits can read back as another. */
    private static void unevenNeighbours() {
        check.sentence("of those of R with at most n digits the one that is nearest to x without its sign");
        prints(0x1p-44, "5.684341886080802E-14");
        prints(0x1p-1017, "7.120236347223045E-307");
        prints(0x1p-1019, "1.7800590868057611E-307");
        prints(-0x1p-44, "-5.684341886080802E-14");
        for (int exponent = 0; exponent < 2047; exponent++) {
            for (int fraction = -1; fraction < 2; fraction++) {
                long bits = Math.max(((long) exponent << 52) + fraction, 0);
                prints(bits, Model.printed(bits, true));
            }
        }
    }

    private static void smallest() {
        check.sentence("c 2^(P-1) or more, but for q = E");
        prints(LEAST_NORMAL - 1, "2.225073858507201E-308");
        prints(LEAST_NORMAL, "2.2250738585072014E-308");
        prints(LEAST_NORMAL + 1, "2.225073858507202E-308");
        prints(2 * LEAST_NORMAL - 1, "4.4501477170144023E-308");
        prints(2 * LEAST_NORMAL, "4.450147717014403E-308");
    }

    private static void result() {
        check.sentence("THE RESULT is the DOUBLE PRINTED. Answers how many bytes.");
        prints(SIGN | LEAST_NORMAL, "-2.2250738585072014E-308");
        prints(1.0, "1.0");
        Map<String, String> now = check.changes("print of 0.5", "3", State::rich,
            y -> y.print(Double.doubleToRawLongBits(0.5)), Check.RESULT);
        check.due("the result", now.get(Check.RESULT), "0.5");
    }
}
