/** Promises 6 and 7: parse and parseFloat. */
public final class ParseTest {
    private static final long INFINITY = 0x7ffL << 52;
    private static final long NAN = INFINITY | 1L << 51;
    private static final String[] WRONG = {
        "", " ", ".", "+", "-", "+-1", "1 2", "e5", ".e5", "1e", "1e+", "1e-", "1e5.0", "1..2", "1.2.3", "1ff", "1fd",
        "1_0", "nan", "NAN", "NaNf", "infinity", "Infinityd", "Inf", "0x", "0x1", "0x.p1", "0xp1", "0x1p", "0x1p+",
        "0x1p1.0", "0xgp1", "0x1.2", "x1p1", "00x1p1", "0x1e5", "- 1", "1\u00a0", "\u00a01", "1\u00ff", "\u00b2",
        "1e5x", "0x1p5x", "0x1.8.8p1", "1,5", "--1", "f", "d", "1e1e1", "0x1pa", "1\u00002", "Na N", "NaN1",
    };

    public static void main(String[] args) {
        Check check = new Check("ParseTest");
        wrong(check);
        special(check);
        decimals(check);
        hexadecimals(check);
        longOnes(check);
        check.done();
    }

    private static void wrong(Check check) {
        for (String s : WRONG) {
            NumberText x = new NumberText();
            x.print(0);
            Check.put(x, s);
            check.refuses("parse of [" + s + "]", UnsupportedOperationException.class, x::parse);
            check.answers("the tape behind it", 0, () -> x.count(0));
            Check.put(x, s);
            check.refuses("parseFloat of [" + s + "]", UnsupportedOperationException.class, x::parseFloat);
            check.answers("the tape behind it", 0, () -> x.count(0));
            check.due("the result stays", Check.result(x), "0.0");
        }
    }

    private static void both(Check check, String s, long due, int dueFloat) {
        NumberText x = new NumberText();
        String told = s.length() > 60 ? s.substring(0, 60) + ".." : s;
        Check.put(x, s);
        check.answers("parse of [" + told + "]", due, x::parse);
        check.answers("the tape behind it", 0, () -> x.count(0));
        Check.put(x, s);
        check.answers("parseFloat of [" + told + "]", dueFloat, x::parseFloat);
        check.answers("the tape behind it", 0, () -> x.count(0));
    }

    private static void same(Check check, String s, double due, float dueFloat) {
        both(check, s, Double.doubleToRawLongBits(due), Float.floatToRawIntBits(dueFloat));
    }

    private static void special(Check check) {
        for (String s : new String[] {"NaN", "+NaN", "-NaN", " \n\0\tNaN\r\u001f\u0020"}) {
            both(check, s, NAN, 0x7fc00000);
        }
        both(check, "Infinity", INFINITY, 0x7f800000);
        both(check, "+Infinity ", INFINITY, 0x7f800000);
        both(check, "-Infinity", INFINITY | Long.MIN_VALUE, 0xff800000);
    }

    private static void decimals(Check check) {
        same(check, "1", 1, 1);
        same(check, "  -1.5\0\0", -1.5, -1.5f);
        same(check, "+.5", .5, .5f);
        same(check, "5.", 5, 5);
        same(check, "5.e1", 50, 50);
        same(check, "1e5F", 1e5, 1e5f);
        same(check, "1E+5d", 1e5, 1e5f);
        same(check, "1.D", 1, 1);
        same(check, "007", 7, 7);
        same(check, "0.1f", 0.1, 0.1f);
        same(check, "0", 0.0, 0f);
        same(check, "-0", -0.0, -0f);
        same(check, "-0e999999999999", -0.0, -0f);
        same(check, "0x0p0", 0.0, 0f);
        same(check, "-0x0.0p-99999999999", -0.0, -0f);
        same(check, "1e-99999999999999999999", 0, 0);
        same(check, "-1e-400", -0.0, -0f);
        same(check, "1e99999999999999999999", Double.POSITIVE_INFINITY, Float.POSITIVE_INFINITY);
        same(check, "1e4294967297", Double.POSITIVE_INFINITY, Float.POSITIVE_INFINITY);
        same(check, "1e0000000000000000000000000005", 1e5, 1e5f);
        same(check, "9007199254740993", 9007199254740992.0, 9007199254740992f);
        same(check, "9007199254740993.00000000000000000000000001", 9007199254740994.0, 9007199254740992f);
        same(check, "9007199254740995", 9007199254740996.0, 9007199254740992f);
        same(check, "16777217", 16777217, 16777216f);
        same(check, "16777217.0000000000000000000000000000001", 16777217, 16777218f);
        same(check, "16777219", 16777219, 16777220f);
        same(check, "1.7976931348623158e308", Double.MAX_VALUE, Float.POSITIVE_INFINITY);
        same(check, "1.7976931348623159e308", Double.POSITIVE_INFINITY, Float.POSITIVE_INFINITY);
        same(check, "340282356779733661637539395458142568448", 0x1.ffffffp127, Float.POSITIVE_INFINITY);
        same(check, "340282356779733661637539395458142568447.9", 0x1.ffffffp127, Float.MAX_VALUE);
        same(check, "2.4703282292062327e-324", 0, 0);
        same(check, "2.4703282292062328e-324", Double.MIN_VALUE, 0);
        same(check, "2.2250738585072011e-308", 2.225073858507201e-308, 0);
        same(check, "2.2250738585072012e-308", Double.MIN_NORMAL, 0);
        same(check, "7.006492321624085e-46", 7.006492321624085e-46, 0f);
        same(check, "7.006492321624086e-46", 7.006492321624086e-46, Float.MIN_VALUE);
        // through a double first it would become the wrong float
        same(check, "1.00000017881393432617187499", 1.0000001788139343, 1.0000001f);
        same(check, "1.00000017881393432617187500", 1.0000001788139343, 1.0000002f);
    }

    private static void hexadecimals(Check check) {
        same(check, "0x1p3", 8, 8);
        same(check, "0X1P+3", 8, 8);
        same(check, "0x.8p1", 1, 1);
        same(check, "0x1.p1", 2, 2);
        same(check, "-0xAbC.dEfp-3f", -0xAbC.dEfp-3, -0xAbC.dEfp-3f);
        same(check, "0xap1d", 20, 20);
        same(check, "0x1dp1d", 58, 58);
        same(check, "0x1.fffffffffffff8p0", 2, 2);
        same(check, "0x1.fffffffffffff7ffffffffffffffffffffffffp0", Math.nextDown(2.0), 2);
        same(check, "0x1.00000000000008p0", 1, 1);
        same(check, "0x1.000000000000080000000000000000000001p0", Math.nextUp(1.0), 1);
        same(check, "0x1.000001p0", 1 + 0x1p-24, 1);
        same(check, "0x1.00000100000000000000000001p0", 1 + 0x1p-24, Math.nextUp(1f));
        same(check, "0x1p1023", 0x1p1023, Float.POSITIVE_INFINITY);
        same(check, "0x1p1024", Double.POSITIVE_INFINITY, Float.POSITIVE_INFINITY);
        same(check, "0x1.fffffep127", 0x1.fffffep127, Float.MAX_VALUE);
        same(check, "0x1.fffffefp127", 0x1.fffffefp127, Float.MAX_VALUE);
        same(check, "0x1.ffffffp127", 0x1.ffffffp127, Float.POSITIVE_INFINITY);
        same(check, "0x1.fffffffffffff7p1023", Double.MAX_VALUE, Float.POSITIVE_INFINITY);
        same(check, "0x1.fffffffffffff8p1023", Double.POSITIVE_INFINITY, Float.POSITIVE_INFINITY);
        same(check, "0x1p-1074", Double.MIN_VALUE, 0);
        same(check, "0x1p-1075", 0, 0);
        same(check, "0x1.00001p-1075", Double.MIN_VALUE, 0);
        same(check, "0x3p-1075", 2 * Double.MIN_VALUE, 0);
        same(check, "0x1p-150", 0x1p-150, 0);
        same(check, "0x1.8p-149", 0x1.8p-149, 2 * Float.MIN_VALUE);
        same(check, "0x1p99999999999999999999", Double.POSITIVE_INFINITY, Float.POSITIVE_INFINITY);
        same(check, "0x1p-99999999999999999999", 0, 0);
        same(check, "0x0.000000000000000000000000000001p120", 1, 1);
        same(check, "0x100000000000000000000000000000p-116", 1, 1);
    }

    /** Any number of digits counts: zeros make up for exponents, and the last digit decides. */
    private static void longOnes(Check check) {
        same(check, "0." + "0".repeat(2000) + "15e2001", 1.5, 1.5f);
        same(check, "15" + "0".repeat(2000) + "e-2001", 1.5, 1.5f);
        same(check, "0x0." + "0".repeat(1000) + "18p4004", 1.5, 1.5f);
        same(check, "0x18" + "0".repeat(1000) + "p-4004", 1.5, 1.5f);
        same(check, "1" + "0".repeat(309), Double.POSITIVE_INFINITY, Float.POSITIVE_INFINITY);
        same(check, "0".repeat(1000) + "1", 1, 1);
        same(check, "1." + "0".repeat(1000) + "1", 1, 1);
        same(check, "0x1.00000000000008" + "0".repeat(1000) + "1p0", Math.nextUp(1.0), 1);
        // the border below the least number, written whole: 768 digits and more
        String half = Model.border(0, true).toPlainString();
        same(check, half, 0, 0);
        same(check, half + "0".repeat(1000), 0, 0);
        same(check, half + "0".repeat(1000) + "1", Double.MIN_VALUE, 0);
        String most = Model.border((0x7ffL << 52) - 1, true).toPlainString();
        same(check, most, Double.POSITIVE_INFINITY, Float.POSITIVE_INFINITY);
        String below = new java.math.BigDecimal(most).subtract(new java.math.BigDecimal("1e-900")).toPlainString();
        same(check, below, Double.MAX_VALUE, Float.POSITIVE_INFINITY);
        // the border with the most digits there are
        long tight = (1L << 52) - 1;
        String border = Model.border(tight, true).toPlainString();
        same(check, border, Double.longBitsToDouble(tight + 1), 0);
        same(check, border + "0".repeat(500) + "3", Double.longBitsToDouble(tight + 1), 0);
        String under = border.substring(0, border.length() - 1) + "4" + "9".repeat(800);
        same(check, under, Double.longBitsToDouble(tight), 0);
    }
}
