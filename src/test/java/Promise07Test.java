import java.math.BigDecimal;
import java.util.Locale;

/** Promise 7: parseFloat. */
public final class Promise07Test {
    private static final int INFINITY = 0x7f800000;
    private static final int LEAST_NORMAL = 1 << 23;

    private static final Check CHECK = new Check("Promise 7");
    private static final NumberTexts TEXTS = new NumberTexts(CHECK, false);

    public static void main(String[] args) {
        TEXTS.all();
        nearest();
        evenOne();
        toInfinity();
        smallest();
        longBorders();
        sweep();
        CHECK.done();
    }

    private static void reads(String s, int bits) {
        TEXTS.readsBits(s, bits);
    }

    private static void nearest() {
        CHECK.sentence("a number is rounded to the nearest one of the kind");
        TEXTS.reads("0.1", 0.1f);
        TEXTS.reads("0.1d", 0.1f);
        TEXTS.reads("3.14159265", (float) Math.PI);
        TEXTS.reads("16777215", 16777215);
        TEXTS.reads("1.000000059604644775390624", 1f);
        TEXTS.reads("1.000000059604644775390626", Math.nextUp(1f));
        TEXTS.reads("0x1.000000ffffffffffp0", 1f);
        TEXTS.reads("0x1.0000010000000001p0", Math.nextUp(1f));
        // rounded to a double first these would become the wrong float
        TEXTS.reads("1.000000059604644775390625000000000000000000000000000001", Math.nextUp(1f));
        TEXTS.reads("1.00000017881393432617187499", 1.0000001f);
        TEXTS.reads("0x1.00000100000000000000000000001p0", Math.nextUp(1f));
        TEXTS.reads("0x1.000002ffffffffffffffffffffffp0", Math.nextUp(1f));
    }

    private static void evenOne() {
        CHECK.sentence("of two to the one whose c is even");
        TEXTS.reads("1.000000059604644775390625", 1f);
        TEXTS.reads("1.000000178813934326171875", Math.nextUp(Math.nextUp(1f)));
        TEXTS.reads("16777217", 16777216);
        TEXTS.reads("16777219", 16777220);
        TEXTS.reads("16777217.000000000000000000000001", 16777218);
        TEXTS.reads("16777218.999999999999999999999999", 16777218);
        TEXTS.reads("0x1.000001p0", 1f);
        TEXTS.reads("0x1.000003p0", Math.nextUp(Math.nextUp(1f)));
        TEXTS.reads("0x1.ffffffp0", 2f);
        TEXTS.reads("0x1.fffffeffffffffp0", Math.nextDown(2f));
        reads("3e10", 0x50df8476);
        TEXTS.reads("9007199254740993", 9007199254740992f);
    }

    private static void toInfinity() {
        CHECK.sentence("2^(P-1) (2 - 2^-P) 2^m or more to infinity, m the greatest q (971, 104)");
        reads("340282356779733661637539395458142568448", INFINITY);
        reads("340282356779733661637539395458142568448.001", INFINITY);
        reads("-340282356779733661637539395458142568448", INFINITY | Integer.MIN_VALUE);
        reads("340282356779733661637539395458142568447", INFINITY - 1);
        reads("340282356779733661637539395458142568447." + "9".repeat(900), INFINITY - 1);
        reads("3.4028235e38", INFINITY - 1);
        reads("3.4028236e38", INFINITY);
        reads("1e39", INFINITY);
        reads("1e308", INFINITY);
        reads("1e309", INFINITY);
        reads("0x1.fffffep127", INFINITY - 1);
        reads("0x1.fffffefffffffffffffffp127", INFINITY - 1);
        reads("0x1.ffffffp127", INFINITY);
        reads("0x1p127", 0x7f000000);
        reads("0x1p128", INFINITY);
        reads("0x1p1024", INFINITY);
    }

    private static void smallest() {
        CHECK.sentence("E the least power of two, -149");
        reads("0x1p-149", 1);
        reads("0x1p-150", 0);
        reads("0x1.0000000000000000000000001p-150", 1);
        reads("0x0.ffffffffffffffffffffffffffp-150", 0);
        reads("0x1.8p-149", 2);
        reads("0x1.7fffffffffffffffffffffffp-149", 1);
        reads("0x2.8p-149", 2);
        reads("0x1p-1074", 0);
        reads("1.4e-45", 1);
        reads("7.006492321624085e-46", 0);
        reads("7.006492321624086e-46", 1);
        reads("-7.006492321624085e-46", Integer.MIN_VALUE);
        reads("-7.006492321624086e-46", Integer.MIN_VALUE | 1);
        CHECK.sentence("c 2^(P-1) or more, but for q = E");
        reads("0x0.fffffep-126", LEAST_NORMAL - 1);
        reads("0x0.fffffeffffp-126", LEAST_NORMAL - 1);
        reads("0x0.ffffffp-126", LEAST_NORMAL);
        reads("0x1p-126", LEAST_NORMAL);
        reads("0x1.000001p-126", LEAST_NORMAL);
        reads("0x1.0000011p-126", LEAST_NORMAL + 1);
        reads("0x1.ffffffp-126", 2 * LEAST_NORMAL);
    }

    private static void longBorders() {
        CHECK.sentence("any number of digits counts");
        int[] all = {0, 1, LEAST_NORMAL - 2, LEAST_NORMAL - 1, LEAST_NORMAL, 2 * LEAST_NORMAL - 1, 0x3f7fffff, 0x3f800000,
            0x4b7fffff, 0x4b800000, 0x4b800001, INFINITY - 2};
        for (int bits : all) {
            String border = Model.border(bits, false).toPlainString();
            String more = border + (border.indexOf('.') < 0 ? "." : "") + "0".repeat(3000);
            String less = border.indexOf('.') < 0
                ? new BigDecimal(border).subtract(BigDecimal.ONE) + "." + "9".repeat(3000)
                : border.substring(0, border.length() - 1) + (char) (border.charAt(border.length() - 1) - 1) + "9".repeat(3000);
            int even = (bits & 1) == 0 ? bits : bits + 1;
            reads(border, even);
            reads(more, even);
            reads(more + "1", bits + 1);
            reads(less, bits);
        }
        TEXTS.reads("0x1.000001" + "0".repeat(9000) + "1p0", Math.nextUp(1f));
        TEXTS.reads("0x1.000001" + "0".repeat(9000) + "p0", 1f);
    }

    private static void sweep() {
        CHECK.sentence("It ROUNDS to what it says");
        for (int exponent = 1; exponent < 255; exponent++) {
            for (int fraction = -2; fraction < 2; fraction++) {
                int bits = (exponent << 23) + fraction;
                float v = Float.intBitsToFloat(bits);
                reads(Model.printed(bits, false), bits);
                reads(String.format(Locale.ROOT, "%.8e", new BigDecimal(v)), bits);
                reads(Double.toHexString(v), bits);
            }
        }
    }
}
