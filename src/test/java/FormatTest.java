import java.util.NoSuchElementException;

/** Promise 13: format. */
public final class FormatTest {
    private static final Object NULL = new Object();

    public static void main(String[] args) {
        Check check = new Check("FormatTest");
        wholes(check);
        bits(check);
        floating(check);
        specials(check);
        hexadecimals(check);
        plain(check);
        indices(check);
        unfit(check);
        missing(check);
        lengths(check);
        numbers(check);
        check.done();
    }

    /** An object with these as its arguments. */
    private static NumberText with(Object... values) {
        NumberText x = new NumberText();
        for (Object v : values) {
            if (v == NULL) {
                x.argument(0, 1);
            } else if (v instanceof Boolean) {
                x.argument(1, (Boolean) v ? 1 : 0);
            } else if (v instanceof Character) {
                x.argument(2, (Character) v);
            } else if (v instanceof Integer) {
                x.argument(3, (Integer) v);
            } else if (v instanceof Long) {
                x.argument(4, (Long) v);
            } else if (v instanceof Float) {
                x.argument(5, Float.floatToRawIntBits((Float) v));
            } else if (v instanceof Double) {
                x.argument(6, Double.doubleToRawLongBits((Double) v));
            } else {
                Check.put(x, (String) v);
                x.text();
            }
        }
        return x;
    }

    private static void prints(Check check, String due, String format, Object... values) {
        NumberText x = with(values);
        Check.put(x, format);
        x.compile(0);
        check.answers("format [" + format + "]", due.length(), () -> x.format(0));
        check.due("format [" + format + "]", Check.result(x), due);
        check.answers("the place", -1, () -> x.count(3));
        check.answers("the arguments stay", values.length, () -> x.count(2));
    }

    private static void wholes(Check check) {
        prints(check, "0|-0042|42   |   42|+42| 42|(42)|-42", "%d|%05d|%-5d|%5d|%+d|% d|%(d|%d",
            0, -42, 42, 42, 42L, 42L, -42, -42L);
        prints(check, "-2147483648|-9223372036854775808|9223372036854775807", "%d|%d|%d", Integer.MIN_VALUE,
            Long.MIN_VALUE, Long.MAX_VALUE);
        prints(check, "999|1,000|-12,345|9,223,372,036,854,775,807|(100,000)", "%,d|%,d|%,d|%,d|%,(d", 999, 1000,
            -12345, Long.MAX_VALUE, -100000);
        prints(check, "00001,234|(000001,234)|+0000001234|  (7)|(7)  |(007)", "%,09d|%0,(12d|%+011d|%(5d|%-(5d|%0(5d",
            1234, -1234, 1234, -7, -7, -7);
        prints(check, "(42)|42|+42| 42|-42|-42", "%(d|%(d|%(+d|%( d|%+d|% d", -42, 42, 42, 42, -42, -42);
        prints(check, "12345|-12345", "%3d|%-3d", 12345, -12345);
    }

    private static void bits(Check check) {
        prints(check, "0|0|00|0x0|0X0", "%o|%x|%#o|%#x|%#X", 0, 0L, 0, 0, 0L);
        prints(check, "ff|377|FF|0xff|0377|0XFF", "%x|%o|%X|%#x|%#o|%#X", 255, 255, 255, 255, 255, 255);
        prints(check, "ffffffff|37777777777|ffffffffffffffff|1777777777777777777777", "%x|%o|%x|%o", -1, -1, -1L, -1L);
        prints(check, "80000000|8000000000000000", "%x|%x", Integer.MIN_VALUE, Long.MIN_VALUE);
        prints(check, "000000ff|0x0000ff|00000377|    0xff|0xff    |  FF|0XFF", "%08x|%#08x|%#08o|%#8x|%-#8x|%4X|%#X",
            255, 255, 255, 255, 255, 255, 255);
    }

    private static void floating(Check check) {
        prints(check, "1.500000e+00|-1.500000E+00|2e+00|2.e+00|1.50e+00", "%e|%E|%.0e|%#.0e|%.2e", 1.5, -1.5, 1.5, 1.5,
            1.5f);
        prints(check, "1.500000|2|2.|1.5|-2", "%f|%.0f|%#.0f|%#.1f|%.0f", 1.5, 1.5, 1.5, 1.5, -1.5);
        prints(check, "1.50000|2|1e+01|1.E+01", "%g|%.0g|%.1g|%#.0E", 1.5, 1.5, 9.5, 9.5);
        prints(check, "0.10000000149011612|1.0000000149011612e-01|0.100000001", "%.17f|%.16e|%.9g", 0.1f, 0.1f, 0.1f);
        prints(check, "1,234,567.500|(1,234.50)|+0001,234.50|1,234.50", "%,.3f|%,(.2f|%+0,12.2f|%,g", 1234567.5,
            -1234.5, 1234.5, 1234.5);
        prints(check, "1.00000e+06|100,000.|(0001.5)|  1.5|1.5  | 1.5", "%,g|%,#.0f|%(08.1f|%5.1f|%-5.1f|% .1f", 1e6,
            1e5, -1.5, 1.5, 1.5, 1.5);
        prints(check, "-0.000000|(0.0)|-0.0e+00|-0.00000|+0.0", "%f|%(.1f|%.1e|%g|%+.1f", -0.0, -0.0, -0.0, -0.0, 0.0);
        prints(check, "0.001000|1.000000e-03|0.00100000|1.00000E-05|0.000100000", "%f|%e|%g|%G|%g", 0.001, 0.001,
            0.001, 0.00001, 0.0001);
        prints(check, "(0001.50e+00)|(1.50e+00)  |+001.50e+00", "%(013.2e|%-(12.2e|%+011.2e", -1.5, -1.5, 1.5);
        String least = new java.math.BigDecimal(Double.MIN_VALUE).toPlainString();
        prints(check, least + "0".repeat(9999 - 1074), "%.9999f", Double.MIN_VALUE);
        prints(check, "0.0001220703125" + "0".repeat(9989), "%.9999g", 0x1p-13);
    }

    private static void specials(Check check) {
        double big = Double.POSITIVE_INFINITY;
        prints(check, "NaN|NaN|NaN|NAN|NaN|NaN", "%f|%+f|% (e|%E|%,g|%a", Double.NaN, Double.NaN, Double.NaN, Double.NaN,
            Double.NaN, Float.NaN);
        prints(check, "Infinity|+Infinity| Infinity|-Infinity|(Infinity)|INFINITY", "%f|%+f|% e|%g|%(f|%G", big, big, big,
            -big, -big, Float.POSITIVE_INFINITY);
        prints(check, "       NaN|  Infinity| -Infinity|(Infinity)|NaN  |Infinity", "%010f|%010e|%010g|%0(10f|%-5f|%#.0f",
            Double.NaN, big, -big, -big, Double.NaN, big);
        prints(check, "+Infinity| -Infinity|INFINITY|NAN|  Infinity", "%+a|%10a|%A|%A|%010a", big, -big, big, Double.NaN,
            big);
        NumberText x = new NumberText();
        x.argument(6, -1);
        Check.put(x, "%(f");
        x.compile(0);
        x.format(0);
        check.due("NaN with a sign bit", Check.result(x), "NaN");
    }

    private static void hexadecimals(Check check) {
        prints(check, "0x1.0p0|0x0.0p0|-0x0.0p0|0x1.8p1|0x1.999999999999ap-4|0X1.999999999999AP-4", "%a|%a|%a|%a|%a|%A",
            1.0, 0.0, -0.0, 3.0, 0.1, 0.1);
        prints(check, "0x0.0000000000001p-1022|0x0.8p-1022|0x1.0p-1022|0x1.fffffffffffffp1023", "%a|%a|%a|%a",
            Double.MIN_VALUE, 0x1p-1023, Double.MIN_NORMAL, Double.MAX_VALUE);
        prints(check, "0x1.0p-149|0x1.99999ap-4|0x1.fffffep127", "%a|%a|%a", Float.MIN_VALUE, 0.1f, Float.MAX_VALUE);
        prints(check, "0x0.000p0|-0x0.0p0|0x0.0p0|0x1.0p0|0x1.0p0", "%.3a|%.0a|%.13a|%.13a|%.99a", 0.0, -0.0, 0.0, 1.0, 1.0);
        prints(check, "0x1.0p1|0x1.ap-4|0x1.99ap-4|0x1.99999999999ap-4", "%.0a|%.1a|%.3a|%.12a", Math.nextDown(2.0),
            0.1, 0.1, 0.1);
        prints(check, "0x1.0p0|0x1.2p0|0x1.2p0|0x1.1p0|0x1.0p1", "%.1a|%.1a|%.1a|%.1a|%.1a", 0x1.08p0, 0x1.18p0,
            0x1.28p0, 0x1.0800000000001p0, 0x1.f8p0);
        prints(check, "0x1.0p-1074|0x1.800p-1073|0x1.0p1024|0x1.0p-1022", "%.1a|%.3a|%.1a|%.1a", Double.MIN_VALUE,
            3 * Double.MIN_VALUE, Double.MAX_VALUE, Math.nextDown(Double.MIN_NORMAL));
        prints(check, "0x000001.0p0|-0x00001.0p0|+0x1.0p0|    0x1.0p0|0x1.0p0    | 0x1.0p0|0x1.0p0",
            "%012a|%012a|%+a|%11a|%-11a|% a|%#a", 1.0, -1.0, 1.0, 1.0, 1.0, 1.0, 1.0);
    }

    private static void plain(Check check) {
        prints(check, "true|false|c|-5|6|1.5|-0.0|text|null", "%s|%s|%s|%s|%s|%s|%s|%s|%s", true, false, 'c', -5, 6L,
            1.5f, -0.0, "text", NULL);
        prints(check, "TRUE|C|1.0E10|NAN|INFINITY|TEXT\u00e4|NULL", "%S|%S|%S|%S|%S|%S|%S", true, 'c', 1e10f, Double.NaN,
            Double.POSITIVE_INFINITY, "text\u00e4", NULL);
        prints(check, "0.1|0.10000000149011612|1.0E-5", "%s|%s|%s", 0.1f, (double) 0.1f, 0.00001);
        prints(check, "tr|-|-1|1.|te||nu|   te|te   ", "%.2s|%.1s|%.2s|%.2s|%.2s|%.0s|%.2s|%5.2s|%-5.2s", true, -12, -12L,
            1.5, "text", "text", NULL, "text", "text");
        prints(check, "true|false|true|true|true|true|true|true|false", "%b|%b|%b|%b|%b|%b|%b|%b|%b", true, false, 'c', 0,
            0L, 0f, 0.0, "", NULL);
        prints(check, "TRUE|FALSE|tru|  fal|fal  |FALSE", "%B|%B|%.3b|%5.3b|%-5.3b|%B", true, false, true, false, NULL,
            NULL);
        prints(check, "a|B|   c|d   |~| ", "%c|%C|%4c|%-4c|%c|%c", 'a', 'b', 'c', 100, 126, 32);
        prints(check, "null|NULL| null|null |null|NULL|nu|NU|null|NULL|null| NULL|null", "%d|%X|%05d|%-5d|%#x|%S|%.2f|%.2E"
            + "|%+g|%A|%c|%5C|%,(d", NULL, NULL, NULL, NULL, NULL, NULL, NULL, NULL, NULL, NULL, NULL, NULL, NULL);
        prints(check, "%|    %|%    |\n|100%", "%%|%5%|%-5%|%n|100%%");
        prints(check, "no directive \0\u00ff", "no directive \0\u00ff");
        prints(check, "", "");
    }

    private static void indices(Check check) {
        prints(check, "baabbcc", "%2$s%1$s%s%s%2$s%s%<s", "a", "b", "c");
        prints(check, "a%a\nab", "%s%%%<s%n%<s%s", "a", "b");
        prints(check, "bbb", "%2$s%<s%<s", "a", "b");
        prints(check, "a", "%1$s", "a", "b", "c");
        prints(check, "ppa", "%16$s%<s%s", "a", "b", "c", "d", "e", "f", "g", "h", "i",
            "j", "k", "l", "m", "n", "o", "p");
    }

    private static void refuses(Check check, Class<? extends RuntimeException> due, int place, String format,
        Object... values) {
        NumberText x = with(values);
        x.print(0);
        Check.put(x, format);
        x.compile(5);
        check.refuses("format [" + format + "]", due, () -> x.format(5));
        check.answers("the place in [" + format + "]", place, () -> x.count(3));
        check.answers("the result is empty", 0, () -> x.count(1));
        check.answers("the arguments stay", values.length, () -> x.count(2));
        check.answers("the formats stay", 1, () -> x.count(4));
    }

    private static void unfit(Check check) {
        Class<UnsupportedOperationException> due = UnsupportedOperationException.class;
        Object[] all = {true, 'c', 65, 65L, 1f, 1.0, "t"};
        String[] taken = {"", "cC", "cCdoxX", "doxX", "eEfgGaA", "eEfgGaA", ""};
        for (int i = 0; i < all.length; i++) {
            for (char c : "cCdoxXeEfgGaA".toCharArray()) {
                if (taken[i].indexOf(c) < 0) {
                    refuses(check, due, 2, "ab%" + c, all[i]);
                } else {
                    NumberText x = with(all[i]);
                    Check.put(x, "%" + c);
                    x.compile(0);
                    check.due("taken: " + c, Check.answer(() -> x.format(0)).startsWith("throws"), false);
                }
            }
        }
        refuses(check, due, 0, "%c", 31);
        refuses(check, due, 0, "%C", 127);
        refuses(check, due, 0, "%c", -1);
        refuses(check, due, 0, "%c", 256 + 65);
        refuses(check, due, 4, "%s%n%d%s", true, "no number");
    }

    private static void missing(Check check) {
        Class<NoSuchElementException> due = NoSuchElementException.class;
        refuses(check, due, 0, "%s");
        refuses(check, due, 3, "%s %s", 1);
        refuses(check, due, 0, "%<s", 1);
        refuses(check, due, 4, "%%%n%<s", 1);
        refuses(check, due, 1, " %17$s", 1);
        refuses(check, due, 0, "%9999$s", 1);
        refuses(check, due, 2, "%d%2$d%f", 1);
        refuses(check, UnsupportedOperationException.class, 0, "%f%2$d", 1);
    }

    private static void lengths(Check check) {
        String three = "%1$9999b%1$9999b%1$9999b";
        String full = (" ".repeat(9995) + "true").repeat(3);
        prints(check, full + " ".repeat(2767) + "true", three + "%1$2771b", true);
        prints(check, full + " ".repeat(2766) + "true%", three + "%1$2770b%%", true);
        prints(check, full + "0".repeat(2769) + "1x", three + "%2$02770dx", true, 1);
        Class<IndexOutOfBoundsException> due = IndexOutOfBoundsException.class;
        refuses(check, due, -1, three + "%1$2772b", true);
        refuses(check, due, -1, three + "%1$2771bx", true);
        refuses(check, due, -1, three + "%1$2771b%%", true);
        refuses(check, due, -1, three + "%1$2771b%n", true);
        refuses(check, due, -1, three + "%2$.2771f", true, 1.5);
        refuses(check, due, -1, three + "%1$9999b%2$s", true);
        refuses(check, due, -1, three + "%1$2771bx%2$s", true);
        refuses(check, due, -1, three + "%-2772%%f", true);
        refuses(check, NoSuchElementException.class, 32, three + "%1$2771b%2$s", true);
        refuses(check, NoSuchElementException.class, 24, three + "%2$9999s", true);
        refuses(check, UnsupportedOperationException.class, 24, three + "%1$9999d", true);
    }

    private static void numbers(Check check) {
        NumberText x = with(1);
        x.print(0);
        Check.put(x, "%d");
        x.compile(1);
        Check.put(x, "%k");
        check.refuses("compile", UnsupportedOperationException.class, () -> x.compile(2));
        for (int f : new int[] {-1, 8, Integer.MIN_VALUE, Integer.MAX_VALUE}) {
            check.refuses("format(" + f + ")", IllegalArgumentException.class, () -> x.format(f));
        }
        check.refuses("format(2) that is not there", IllegalStateException.class, () -> x.format(2));
        check.answers("the place stays", 0, () -> x.count(3));
        check.due("the result stays", Check.result(x), "0.0");
        check.answers("format(1)", 1, () -> x.format(1));
        check.answers("the place", -1, () -> x.count(3));
    }
}
