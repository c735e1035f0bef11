/** Promises 4 and 5: print and printFloat. */
public final class PrintTest {
    private static final Object[][] DOUBLES = {
        {0x0L, "0.0"}, {0x8000000000000000L, "-0.0"}, {0x7ff0000000000000L, "Infinity"},
        {0xfff0000000000000L, "-Infinity"}, {0x7ff8000000000000L, "NaN"}, {-1L, "NaN"}, {0x7ff0000000000001L, "NaN"},
        {1L, "4.9E-324"}, {2L, "9.9E-324"}, {3L, "1.5E-323"}, {4L, "2.0E-323"},
        {0x7fefffffffffffffL, "1.7976931348623157E308"}, {0x0010000000000000L, "2.2250738585072014E-308"},
        {0x000fffffffffffffL, "2.225073858507201E-308"},
        {bits(0.001), "0.001"}, {bits(0.0009999), "9.999E-4"}, {bits(9999999.0), "9999999.0"}, {bits(1e7), "1.0E7"},
        {bits(-1234567.5), "-1234567.5"}, {bits(0.3), "0.3"}, {bits(2e23), "2.0E23"}, {bits(1e23), "1.0E23"},
        {bits(8.41e21), "8.41E21"}, {bits(2.0E-3), "0.002"}, {bits(9007199254740993.0), "9.007199254740992E15"},
        {bits(100.0), "100.0"}, {bits(5e-5), "5.0E-5"}, {bits(2.2250738585072012e-308), "2.2250738585072014E-308"},
        {bits(4.35), "4.35"}, {bits(1.0 / 3), "0.3333333333333333"}, {bits(Math.PI), "3.141592653589793"},
        {0x4340000000000001L, "9.007199254740994E15"}, {bits(1.2E-322), "1.2E-322"},
    };
    private static final Object[][] FLOATS = {
        {0, "0.0"}, {0x80000000, "-0.0"}, {0x7f800000, "Infinity"}, {0xff800000, "-Infinity"}, {0x7fc00000, "NaN"},
        {-1, "NaN"}, {1, "1.4E-45"}, {2, "2.8E-45"}, {3, "4.2E-45"}, {0x7f7fffff, "3.4028235E38"},
        {0x00800000, "1.1754944E-38"}, {0x007fffff, "1.1754942E-38"}, {bits(0.1f), "0.1"}, {bits(1e10f), "1.0E10"},
        {bits(8388608f), "8388608.0"}, {bits(1.0E-3f), "0.001"}, {bits(-3.3f), "-3.3"},
        {bits(2e-3f), "0.002"}, {bits(16777216f), "1.6777216E7"}, {bits(3.3554432E7f), "3.3554432E7"},
        {bits(2.0E10f), "2.0E10"}, {bits(1.0E-44f), "9.8E-45"},
    };

    public static void main(String[] args) {
        Check check = new Check("PrintTest");
        NumberText x = new NumberText();
        for (Object[] row : DOUBLES) {
            String due = (String) row[1];
            check.answers("print of " + due, due.length(), () -> x.print((Long) row[0]));
            check.due("the text of it", Check.result(x), due);
        }
        NumberText y = new NumberText();
        for (Object[] row : FLOATS) {
            String due = (String) row[1];
            check.answers("printFloat of " + due, due.length(), () -> y.printFloat((Integer) row[0]));
            check.due("the text of it", Check.result(y), due);
        }
        manyFloats(check);
        leavesTheRest(check);
        check.done();
    }

    /** The fraction's borders at every power of two, where the neighbour below is nearer. */
    private static void manyFloats(Check check) {
        for (int exponent = 0; exponent < 255; exponent++) {
            NumberText x = new NumberText();
            for (int fraction = -2; fraction < 3; fraction++) {
                int bits = Math.max((exponent << 23) + fraction, 0);
                x.printFloat(bits);
                check.due("printFloat(" + bits + ")", Check.result(x), Model.printed(bits, false));
            }
        }
        for (int exponent = 0; exponent < 2047; exponent++) {
            NumberText x = new NumberText();
            for (int fraction = -1; fraction < 2; fraction++) {
                long bits = Math.max(((long) exponent << 52) + fraction, 0);
                x.print(bits);
                check.due("print(" + bits + ")", Check.result(x), Model.printed(bits, true));
            }
        }
    }

    private static void leavesTheRest(Check check) {
        NumberText x = new NumberText();
        Check.put(x, "17");
        x.argument(1, 1);
        x.print(1);
        x.printFloat(1);
        check.answers("the tape stays", 2, () -> x.count(0));
        check.answers("the arguments stay", 1, () -> x.count(2));
        check.answers("the result is the latest", 7, () -> x.count(1));
    }

    private static long bits(double d) {
        return Double.doubleToRawLongBits(d);
    }

    private static int bits(float f) {
        return Float.floatToRawIntBits(f);
    }
}
