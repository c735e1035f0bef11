import java.math.BigDecimal;
import java.util.Locale;

/** Promise 6: parse. */
public final class Promise06Test {
    private static final long INFINITY = 0x7ffL << 52;
    private static final long LEAST_NORMAL = 1L << 52;

    private static final Check CHECK = new Check("Promise 6");
    private static final NumberTexts TEXTS = new NumberTexts(CHECK, true);

    public static void main(String[] args) {
        TEXTS.all();
        nearest();
        evenOne();
        toInfinity();
        smallest();
        longBorders();
        sweep();
        CHECK.done();
    }

    private static void nearest() {
        CHECK.sentence("a number is rounded to the nearest one of the kind");
        TEXTS.reads("0.1", 0.1);
        TEXTS.reads("0.1f", 0.1);
        TEXTS.reads("3.141592653589793", Math.PI);
        TEXTS.reads("9007199254740991", 9007199254740991.0);
        TEXTS.reads("2.2250738585072011e-308", 2.225073858507201e-308);
        TEXTS.reads("2.2250738585072012e-308", Double.MIN_NORMAL);
        TEXTS.reads("1.00000000000000011102230246251565404236316680908203124", 1.0);
        TEXTS.reads("1.00000000000000011102230246251565404236316680908203126", Math.nextUp(1.0));
        TEXTS.reads("0x1.00000000000007ffffffffffffp0", 1.0);
        TEXTS.reads("0x1.000000000000080000000000001p0", Math.nextUp(1.0));
    }

    private static void evenOne() {
        CHECK.sentence("of two to the one whose c is even");
        TEXTS.reads("1.00000000000000011102230246251565404236316680908203125", 1.0);
        TEXTS.reads("1.00000000000000033306690738754696212708950042724609375", Math.nextUp(Math.nextUp(1.0)));
        TEXTS.reads("9007199254740993", 9007199254740992.0);
        TEXTS.reads("9007199254740995", 9007199254740996.0);
        TEXTS.reads("9007199254740993.0000000000000000000000001", 9007199254740994.0);
        TEXTS.reads("9007199254740994.9999999999999999999999999", 9007199254740994.0);
        TEXTS.reads("0x1.00000000000008p0", 1.0);
        TEXTS.reads("0x1.00000000000018p0", Math.nextUp(Math.nextUp(1.0)));
        TEXTS.reads("0x20000000000001p0", 9007199254740992.0);
        TEXTS.reads("0x20000000000003p0", 9007199254740996.0);
        // all ones and a half more: the power of two above
        TEXTS.reads("0x1.fffffffffffff8p0", 2.0);
        TEXTS.reads("0x1.fffffffffffff7ffffffffffffp0", Math.nextDown(2.0));
        TEXTS.readsBits("1e23", 0x44b52d02c7e14af6L);
        TEXTS.readsBits("5e22", 0x44a52d02c7e14af6L);
        TEXTS.readsBits("7e22", 0x44ada56a4b0835c0L);
    }

    private static void toInfinity() {
        CHECK.sentence("2^(P-1) (2 - 2^-P) 2^m or more to infinity, m the greatest q (971, 104)");
        String border = new BigDecimal(Double.MAX_VALUE).add(new BigDecimal(Math.ulp(Double.MAX_VALUE) / 2)).toPlainString();
        String below = new BigDecimal(border).subtract(BigDecimal.ONE).toPlainString();
        TEXTS.readsBits(border, INFINITY);
        TEXTS.readsBits(border + ".000001", INFINITY);
        TEXTS.readsBits("-" + border, INFINITY | Long.MIN_VALUE);
        TEXTS.readsBits(below, INFINITY - 1);
        TEXTS.readsBits(below + "." + "9".repeat(900), INFINITY - 1);
        TEXTS.readsBits("-" + below, INFINITY - 1 | Long.MIN_VALUE);
        TEXTS.readsBits("1.7976931348623157e308", INFINITY - 1);
        TEXTS.readsBits("1.7976931348623158e308", INFINITY - 1);
        TEXTS.readsBits("1.7976931348623159e308", INFINITY);
        TEXTS.reads("9e307", 9e307);
        TEXTS.readsBits("2e308", INFINITY);
        TEXTS.readsBits("1e309", INFINITY);
        TEXTS.readsBits("0x1.fffffffffffffp1023", INFINITY - 1);
        TEXTS.readsBits("0x1.fffffffffffff7p1023", INFINITY - 1);
        TEXTS.readsBits("0x1.fffffffffffff7ffffffffp1023", INFINITY - 1);
        TEXTS.readsBits("0x1.fffffffffffff8p1023", INFINITY);
        TEXTS.reads("0x1p1023", 0x1p1023);
        TEXTS.readsBits("0x1p1024", INFINITY);
        TEXTS.reads("0x0.8p1024", 0x1p1023);
    }

    private static void smallest() {
        CHECK.sentence("E the least power of two, -1074");
        TEXTS.readsBits("0x1p-1074", 1L);
        TEXTS.readsBits("0x1p-1075", 0L);
        TEXTS.readsBits("0x1.0000000000000000001p-1075", 1L);
        TEXTS.readsBits("0x0.ffffffffffffffffffp-1075", 0L);
        TEXTS.readsBits("0x1.8p-1074", 2L);
        TEXTS.readsBits("0x1.7ffffffffffffffffp-1074", 1L);
        TEXTS.readsBits("0x2.8p-1074", 2L);
        TEXTS.readsBits("0x1p-1076", 0L);
        TEXTS.readsBits("0x1.fffffp-1076", 0L);
        TEXTS.readsBits("4.9e-324", 1L);
        TEXTS.readsBits("3e-324", 1L);
        TEXTS.readsBits("2e-324", 0L);
        TEXTS.readsBits("2.4703282292062327e-324", 0L);
        TEXTS.readsBits("2.4703282292062328e-324", 1L);
        TEXTS.readsBits("-2.4703282292062327e-324", Long.MIN_VALUE);
        TEXTS.readsBits("-2.4703282292062328e-324", Long.MIN_VALUE | 1);
        TEXTS.readsBits("1e-323", 2L);
        CHECK.sentence("c 2^(P-1) or more, but for q = E");
        TEXTS.readsBits("0x0.fffffffffffffp-1022", LEAST_NORMAL - 1);
        TEXTS.readsBits("0x0.fffffffffffff7fp-1022", LEAST_NORMAL - 1);
        TEXTS.readsBits("0x0.fffffffffffff8p-1022", LEAST_NORMAL);
        TEXTS.readsBits("0x1p-1022", LEAST_NORMAL);
        TEXTS.readsBits("0x1.00000000000008p-1022", LEAST_NORMAL);
        TEXTS.readsBits("0x1.000000000000081p-1022", LEAST_NORMAL + 1);
        TEXTS.readsBits("0x1.fffffffffffff8p-1022", 2 * LEAST_NORMAL);
    }

    /** Borders between two numbers, written whole, and what lies just beside them. */
    private static void longBorders() {
        CHECK.sentence("any number of digits counts");
        long[] all = {0, 1, LEAST_NORMAL - 2, LEAST_NORMAL - 1, LEAST_NORMAL, 2 * LEAST_NORMAL - 1, 0x3fefffffffffffffL,
            0x3ff0000000000000L, 0x433fffffffffffffL, 0x4340000000000000L, 0x4340000000000001L, INFINITY - 2};
        for (long bits : all) {
            String border = Model.border(bits, true).toPlainString();
            String more = border + (border.indexOf('.') < 0 ? "." : "") + "0".repeat(3000);
            String less = border.indexOf('.') < 0
                ? new BigDecimal(border).subtract(BigDecimal.ONE) + "." + "9".repeat(3000)
                : border.substring(0, border.length() - 1) + (char) (border.charAt(border.length() - 1) - 1) + "9".repeat(3000);
            long even = (bits & 1) == 0 ? bits : bits + 1;
            TEXTS.readsBits(border, even);
            TEXTS.readsBits(more, even);
            TEXTS.readsBits(more + "1", bits + 1);
            TEXTS.readsBits(less, bits);
        }
        TEXTS.reads("0x1.00000000000008" + "0".repeat(9000) + "1p0", Math.nextUp(1.0));
        TEXTS.reads("0x1.00000000000008" + "0".repeat(9000) + "p0", 1.0);
        TEXTS.readsBits("1" + "0".repeat(309), INFINITY);
        TEXTS.reads("1" + "0".repeat(308), 1e308);
        TEXTS.reads("1" + "0".repeat(308) + "." + "0".repeat(5000) + "1", 1e308);
    }

    /** Every power of two, and its neighbours, read back from the shortest decimal and from one of 17 digits. */
    private static void sweep() {
        CHECK.sentence("It ROUNDS to what it says");
        for (int exponent = 1; exponent < 2047; exponent++) {
            long bits = ((long) exponent << 52) - exponent % 3;
            TEXTS.readsBits(Model.printed(bits, true), bits);
            TEXTS.readsBits(String.format(Locale.ROOT, "%.16e", new BigDecimal(Double.longBitsToDouble(bits))), bits);
            TEXTS.readsBits(Double.toHexString(Double.longBitsToDouble(bits)), bits);
        }
    }
}
