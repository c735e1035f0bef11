import java.math.BigDecimal;

/** Promise 13, and what e, f and g print. */
public final class Promise13FloatTest {
    private static final double INFINITE = Double.POSITIVE_INFINITY;

    private static Check check = new Check("Promise 13, e f g");

    public static void main(String[] args) {
        usualPrecision();
        precisions();
        rounding();
        exponents();
        general();
        floats();
        points();
        groups();
        signs();
        zeros();
        specials();
        widths();
        check.done();
    }

    private static void prints(String due, String format, Object... values) {
        Promise13Test.prints(check, due, format, values);
    }

    private static void usualPrecision() {
        check.sentence("precision p (6 if none)");
        prints("1.500000e+00|1.500000E+00|1.500000|1.50000|1.50000E-10", "%e|%E|%f|%g|%G", 1.5, 1.5, 1.5, 1.5, 1.5e-10);
        prints("0.000000e+00|0.000000|0.00000", "%e|%f|%g", 0.0, 0.0, 0.0);
    }

    private static void precisions() {
        check.sentence("p digits behind the point");
        prints("2e+00|1.5e+00|1.50e+00|2|1.5|1.50|2|2|1.5|1.50", "%.0e|%.1e|%.2e|%.0f|%.1f|%.2f|%.0g|%.1g|%.2g|%.3g", 1.5,
            1.5, 1.5, 1.5, 1.5, 1.5, 1.5, 1.5, 1.5, 1.5);
        String least = new BigDecimal(Double.MIN_VALUE).toPlainString();
        String most = new BigDecimal(Double.MAX_VALUE).toPlainString();
        prints(least + "0".repeat(9999 - 1074), "%.9999f", Double.MIN_VALUE);
        prints("-" + most + "." + "0".repeat(9999), "%.9999f", -Double.MAX_VALUE);
        prints("1." + "0".repeat(9999) + "e+00", "%.9999e", 1.0);
        prints("0.0001220703125" + "0".repeat(9989), "%.9999g", 0x1p-13);
        prints(most + "." + "0".repeat(9999 - 309), "%.9999g", Double.MAX_VALUE);
        prints("0." + "0".repeat(9998), "%.9999g", 0.0);
    }

    private static void rounding() {
        check.sentence("rounded from the exact value, halves up in size");
        prints("1|2|3|-1|-3|0|1.3|1.1|0.3", "%.0f|%.0f|%.0f|%.0f|%.0f|%.0f|%.1f|%.1f|%.1f", 0.5, 1.5, 2.5, -0.5, -2.5,
            Math.nextDown(0.5), 1.25, 1.15, 0.25);
        prints("3e+00|-3e+00|1.3e+00|1.1e+00|1e+01|9.99e+00", "%.0e|%.0e|%.1e|%.1e|%.0e|%.2e", 2.5, -2.5, 1.25, 1.15, 9.5,
            9.995);
        prints("3|-3|1.3|1.1|1e+01|10", "%.1g|%.1g|%.2g|%.2g|%.1g|%.2g", 2.5, -2.5, 1.25, 1.15, 9.5, 9.96);
        prints("-0|-0.00|-0.0e+00", "%.0f|%.2f|%.1e", -0.4, -0.001, -0.0);
    }

    private static void exponents() {
        check.sentence("one before that is 0 only for 0; e, + or -, two digits at least");
        prints("0e+00|-0e+00|5e-324|2e+308|1e+09|1e+10|1e+99|1e+100|1e-09|1e-10|1e-99|1e-100",
            "%.0e|%.0e|%.0e|%.0e|%.0e|%.0e|%.0e|%.0e|%.0e|%.0e|%.0e|%.0e", 0.0, -0.0, Double.MIN_VALUE, Double.MAX_VALUE,
            1e9, 1e10, 1e99, 1e100, 1e-9, 1e-10, 1e-99, 1e-100);
        prints("1.E+10|1e+100|1e-99", "%#.0E|%.0e|%.0e", 9.6e9, 9.6e99, 9.6e-100);
    }

    private static void general() {
        check.sentence("g: p (0: 1): rounded to p digits it is 0, or 10^-4 or more and below 10^p");
        prints("0|0|0.0|-0.00000", "%.0g|%.1g|%.2g|%g", 0.0, 0.0, 0.0, -0.0);
        prints("0.000100000|0.000100000|9.99999e-05|0.0001|9e-05", "%g|%g|%g|%.0g|%.1g", 0.0001, 0.00009999995,
            0.00009999994, 0.000095, 0.000094);
        prints("999999|1.00000e+06|1.00000e+06|999999", "%g|%g|%g|%g", 999999.0, 1e6, 999999.5, 999999.4);
        prints("9|1e+01|1e+01|10|1.0e+02", "%.0g|%.0g|%.1g|%.2g|%.2g", 9.0, 10.0, 9.5, 10.0, 99.5);
        check.sentence("as many behind the point as make p digits with those before");
        prints("1.00000|10.0000|100000.|0.100000|0.00123457", "%g|%g|%#.0f|%g|%g", 1.0, 10.0, 1e5, 0.1, 0.00123456789);
        prints("100000|0.999|1.00|10.0", "%g|%.3g|%.3g|%.3g", 1e5, 0.9994, 0.9996, 9.996);
    }

    private static void floats() {
        check.sentence("rounded from the exact value (of a FLOAT, too)");
        prints("0.10000000149011612|1.0000000149011612e-01|0.100000001", "%.17f|%.16e|%.9g", 0.1f, 0.1f, 0.1f);
        prints("1.401298e-45|0.000000|3.40282e+38|340282346638528859811704183484516925440", "%e|%f|%g|%.0f",
            Float.MIN_VALUE, Float.MIN_VALUE, Float.MAX_VALUE, Float.MAX_VALUE);
        prints("-0.000000|NaN|Infinity|(Infinity)", "%f|%e|%g|%(f", -0f, Float.NaN, Float.POSITIVE_INFINITY,
            Float.NEGATIVE_INFINITY);
        prints(new BigDecimal(Float.MIN_VALUE).toPlainString(), "%.149f", Float.MIN_VALUE);
    }

    private static void points() {
        check.sentence("# puts a point where there is none (e, f with p 0)");
        prints("2e+00|2.e+00|2.E+00|2.5e+00|2.5e+00", "%.0e|%#.0e|%#.0E|%.1e|%#.1e", 2.0, 2.0, 2.0, 2.5, 2.5);
        prints("2|2.|2.5|2.5|2.000000", "%.0f|%#.0f|%.1f|%#.1f|%#f", 2.0, 2.0, 2.5, 2.5, 2.0);
        prints("(2.)|002.|2.  |1,000.|+2.e+00", "%#(.0f|%#04.0f|%#-4.0f|%#,.0f|%#+.0e", -2.0, 2.0, 2.0, 1000.0, 2.0);
        prints("Infinity|NaN", "%#.0f|%#.0e", INFINITE, Double.NaN);
    }

    private static void groups() {
        check.sentence(", puts a , between groups of three digits before the point");
        prints("999.0|1,000.0|1,000.0|999,999.9|1,000,000.0|-1,234,567.5", "%,.1f|%,.1f|%,.1f|%,.1f|%,.1f|%,.1f", 999.0,
            999.96, 1000.0, 999999.9, 999999.96, -1234567.5);
        prints("0.1234567|1,234.1234567", "%,.7f|%,.7f", 0.1234567, 1234.1234567);
        prints("1,234.50|123,456|1.23457e+06|0.00012345", "%,g|%,g|%,g|%,.5g", 1234.5, 123456.0, 1234567.0, 0.00012345);
        String most = String.format(java.util.Locale.ROOT, "%,d", new BigDecimal(Double.MAX_VALUE).toBigInteger());
        prints(most + "|" + most + ".0", "%,.0f|%,.1f", Double.MAX_VALUE, Double.MAX_VALUE);
        prints("-" + most + "." + "0".repeat(9999), "%,.9999f", -Double.MAX_VALUE);
    }

    private static void signs() {
        check.sentence("(negative is what has the sign bit, -0.0, too, but no NaN)");
        for (String c : new String[] {"e", "f", "g"}) {
            String one = c.equals("e") ? "1.0e+00" : "1.0";
            String none = c.equals("e") ? "0.0e+00" : "0.0";
            String p = c.equals("g") ? ".2" : ".1";
            prints(one + "|-" + one + "|" + none + "|-" + none, "%1$" + p + c + "|%2$" + p + c + "|%3$" + p + c + "|%4$" + p + c,
                1.0, -1.0, 0.0, -0.0);
            prints("+" + one + "|-" + one + "|+" + none + "|-" + none,
                "%1$+" + p + c + "|%2$+" + p + c + "|%3$+" + p + c + "|%4$+" + p + c, 1.0, -1.0, 0.0, -0.0);
            prints(" " + one + "|-" + one + "| " + none + "|-" + none,
                "%1$ " + p + c + "|%2$ " + p + c + "|%3$ " + p + c + "|%4$ " + p + c, 1.0, -1.0, 0.0, -0.0);
            prints(one + "|(" + one + ")|" + none + "|(" + none + ")",
                "%1$(" + p + c + "|%2$(" + p + c + "|%3$(" + p + c + "|%4$(" + p + c, 1.0, -1.0, 0.0, -0.0);
            prints("+" + one + "|(" + one + ")| " + none + "|(" + none + ")",
                "%1$+(" + p + c + "|%2$+(" + p + c + "|%3$ (" + p + c + "|%4$ (" + p + c, 1.0, -1.0, 0.0, -0.0);
        }
        prints("-0|(0)|-0.0", "%.0f|%(.0f|%.1f", -0.4, -0.4, -0.04);
    }

    private static void zeros() {
        check.sentence("0 puts zeros behind the sign, (, up to width ( the ) counts), without , between them");
        prints("1.5|1.5|01.5|0001.5", "%02.1f|%03.1f|%04.1f|%06.1f", 1.5, 1.5, 1.5, 1.5);
        prints("-1.5|-01.5|+1.5|+01.5| 01.5", "%04.1f|%05.1f|%+04.1f|%+05.1f|% 05.1f", -1.5, -1.5, 1.5, 1.5, 1.5);
        prints("(1.5)|(1.5)|(01.5)", "%(04.1f|%(05.1f|%(06.1f", -1.5, -1.5, -1.5);
        prints("001.5e+00|-01.5e+00|(01.5e+00)|001.50", "%09.1e|%09.1e|%(010.1e|%06.3g", 1.5, -1.5, -1.5, 1.5);
        prints("0001,234.5|(1,234.5)|(01,234.5)", "%,010.1f|%,(09.1f|%,(010.1f", 1234.5, -1234.5, -1234.5);
        prints("-" + "0".repeat(9994) + "1.50", "%09999.2f", -1.5);
    }

    private static void specials() {
        check.sentence("NaN, Infinity: so, with signs as told (NaN: none, no ( and no +), 0 and , count for nothing then"
            + " (blanks instead)");
        double minusNan = Double.longBitsToDouble(-1);
        for (char c : "efg".toCharArray()) {
            prints("NaN|NaN|NaN|NaN|NaN", "%1$" + c + "|%1$+" + c + "|%1$ " + c + "|%1$(" + c + "|%2$(" + c, Double.NaN,
                minusNan);
            prints("NaN|NaN| NaN|NaN | NaN| NaN", "%1$2" + c + "|%1$3" + c + "|%1$4" + c + "|%1$-4" + c + "|%1$04" + c
                + "|%2$+(04" + c, Double.NaN, minusNan);
            prints("Infinity|+Infinity| Infinity|Infinity", "%1$" + c + "|%1$+" + c + "|%1$ " + c + "|%1$(" + c, INFINITE);
            prints("-Infinity|-Infinity|-Infinity|(Infinity)", "%1$" + c + "|%1$+" + c + "|%1$ " + c + "|%1$(" + c, -INFINITE);
            prints("  Infinity| +Infinity|  Infinity| -Infinity|(Infinity)| (Infinity)", "%1$010" + c + "|%1$+010" + c
                + "|%1$ 010" + c + "|%2$010" + c + "|%2$(010" + c + "|%2$(011" + c, INFINITE, -INFINITE);
            prints("Infinity  |(Infinity) |Infinity", "%1$-10" + c + "|%2$(-11" + c + "|%1$.0" + c, INFINITE, -INFINITE);
        }
        prints("Infinity|NaN|  Infinity", "%,f|%,g|%,010f", INFINITE, Double.NaN, INFINITE);
    }

    private static void widths() {
        check.sentence("Shorter than width: blanks before, behind with -.");
        prints("1.5|1.5| 1.5|1.5 |1.5", "%2.1f|%3.1f|%4.1f|%-4.1f|%-2.1f", 1.5, 1.5, 1.5, 1.5, 1.5);
        prints("(1.5)| (1.5)|(1.5) ", "%(5.1f|%(6.1f|%(-6.1f", -1.5, -1.5, -1.5);
        prints("1.5e+00| 1.5e+00|1.5e+00 |1.50| 1.50|1.50 ", "%7.1e|%8.1e|%-8.1e|%4.3g|%5.3g|%-5.3g", 1.5, 1.5, 1.5, 1.5, 1.5,
            1.5);
    }
}
