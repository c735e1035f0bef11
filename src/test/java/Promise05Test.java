import java.util.Map;

/** Promise 5: printFloat. */
public final class Promise05Test {
    private static final int LEAST_NORMAL = 0x00800000;
    private static final int INFINITY = 0x7f800000;
    private static final int SIGN = Integer.MIN_VALUE;

    private static Check check = new Check("Promise 5");
    private static Subject x = new Subject();

    public static void main(String[] args) {
        notANumber();
        signs();
        plainOrNot();
        ordinary();
        twoDigits();
        readBack();
        unevenNeighbours();
        smallest();
        result();
        check.done();
    }

    private static void prints(int bits, String due) {
        if (x.calls() > Subject.PROMISED_CALLS - 10) {
            x = new Subject();
        }
        String told = "printFloat(0x" + Integer.toHexString(bits) + ")";
        check.answers(told, due.length(), () -> x.printFloat(bits));
        check.due(told, x.result(), due);
    }

    private static void prints(float v, String due) {
        prints(Float.floatToRawIntBits(v), due);
    }

    private static void notANumber() {
        check.sentence("All NaN are one; PRINTED: NaN");
        int[] all = {INFINITY + 1, INFINITY | 1 << 22, INFINITY + (1 << 22) - 1, Integer.MAX_VALUE, SIGN | INFINITY + 1,
            SIGN | INFINITY | 1 << 22, -1};
        for (int bits : all) {
            prints(bits, "NaN");
        }
        check.sentence("Infinity; what is one below it is finite");
        prints(INFINITY, "Infinity");
        prints(INFINITY - 1, "3.4028235E38");
    }

    private static void signs() {
        check.sentence("a - if the sign is set; Infinity; 0.0");
        prints(SIGN | INFINITY, "-Infinity");
        prints(0, "0.0");
        prints(SIGN, "-0.0");
        prints(1, "1.4E-45");
        prints(SIGN | 1, "-1.4E-45");
        prints(SIGN | INFINITY - 1, "-3.4028235E38");
        prints(-1f, "-1.0");
    }

    private static void plainOrNot() {
        check.sentence("for p -2 .. 7: as a plain decimal, with at least one digit before and behind the point");
        prints(0.001f, "0.001");
        prints(Math.nextUp(0.001f), "0.0010000002");
        prints(0.01f, "0.01");
        prints(0.1f, "0.1");
        prints(Math.nextDown(1f), "0.99999994");
        prints(1f, "1.0");
        prints(100f, "100.0");
        prints(8388608f, "8388608.0");
        prints(9999999f, "9999999.0");
        check.sentence("else d1 . d2 .. (0 if there is only one) E and p - 1");
        prints(Math.nextDown(0.001f), "9.999999E-4");
        prints(0.0001f, "1.0E-4");
        prints(1e7f, "1.0E7");
        prints(10000001f, "1.0000001E7");
        prints(16777216f, "1.6777216E7");
        prints(1e10f, "1.0E10");
        prints(1e-10f, "1.0E-10");
    }

    private static void ordinary() {
        check.sentence("the decimals that ROUND to its size; n the least number of digits that one of R has");
        prints(-3.3f, "-3.3");
        prints(2e-3f, "0.002");
        prints(0.3f, "0.3");
        prints(1f / 3, "0.33333334");
        prints((float) Math.PI, "3.1415927");
        prints(1.17549435E-38f, "1.1754944E-38");
    }

    private static void twoDigits() {
        check.sentence("but 2 if that is 1; of those of R with at most n digits the one that is nearest");
        prints(1, "1.4E-45");
        prints(2, "2.8E-45");
        prints(3, "4.2E-45");
        prints(4, "5.6E-45");
        prints(7, "9.8E-45");
        prints(2.0E10f, "2.0E10");
    }

    /** A border itself counts if c is even; of two that are as near the even one is taken. */
    private static void readBack() {
        check.sentence("R are the decimals (numbers d 10^k) that ROUND to its size");
        prints(0x50df8475, "2.9999999E10");
        prints(0x50df8476, "3.0E10");
        check.sentence("of two the one whose d (of n digits) is even");
        prints(2097152.25f, "2097152.2");
        prints(2097152.75f, "2097152.8");
        prints(1048576.25f, "1048576.2");
        prints(1048576.75f, "1048576.8");
    }

    private static void unevenNeighbours() {
        check.sentence("of those of R with at most n digits the one that is nearest to x without its sign");
        prints(0x1p-96f, "1.2621775E-29");
        prints(0x1p87f, "1.5474251E26");
        prints(0x1p90f, "1.2379401E27");
        prints(0x1p25f, "3.3554432E7");
        for (int exponent = 0; exponent < 255; exponent++) {
            for (int fraction = -2; fraction < 3; fraction++) {
                int bits = Math.max((exponent << 23) + fraction, 0);
                prints(bits, Model.printed(bits, false));
            }
        }
    }

    private static void smallest() {
        check.sentence("c 2^(P-1) or more, but for q = E");
        prints(LEAST_NORMAL - 1, "1.1754942E-38");
        prints(LEAST_NORMAL, "1.1754944E-38");
        prints(LEAST_NORMAL + 1, "1.1754945E-38");
        prints(2 * LEAST_NORMAL, "2.3509887E-38");
    }

    private static void result() {
        check.sentence("THE RESULT is the FLOAT PRINTED. Answers how many bytes.");
        prints(SIGN | LEAST_NORMAL, "-1.1754944E-38");
        prints(1f, "1.0");
        Map<String, String> now = check.changes("printFloat of 0.1", "3", State::rich,
            y -> y.printFloat(Float.floatToRawIntBits(0.1f)), Check.RESULT);
        check.due("the result", now.get(Check.RESULT), "0.1");
    }
}
