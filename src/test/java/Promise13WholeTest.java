/** Promise 13, and what d, o and x print. */
public final class Promise13WholeTest {
    private static Check check = new Check("Promise 13, d o x");

    public static void main(String[] args) {
        digits();
        groups();
        signs();
        zeros();
        unsigned();
        widths();
        check.done();
    }

    private static void prints(String due, String format, Object... values) {
        Promise13Test.prints(check, due, format, values);
    }

    private static void digits() {
        check.sentence("d: the digits");
        prints("0|1|-1|9|10|-10", "%d|%d|%d|%d|%d|%d", 0, 1, -1, 9, 10, -10);
        prints("-2147483648|2147483647", "%d|%d", Integer.MIN_VALUE, Integer.MAX_VALUE);
        prints("0|-9223372036854775808|9223372036854775807", "%d|%d|%d", 0L, Long.MIN_VALUE, Long.MAX_VALUE);
        prints("999999999|1000000000|1000000000000000000", "%d|%d|%d", 999999999, 1000000000L, 1000000000000000000L);
    }

    private static void groups() {
        check.sentence(", puts a , between groups of three digits before the point");
        prints("0|9|99|999|1,000|9,999|99,999|999,999|1,000,000", "%,d|%,d|%,d|%,d|%,d|%,d|%,d|%,d|%,d", 0, 9, 99, 999, 1000,
            9999, 99999, 999999, 1000000);
        prints("-999|-1,000|-2,147,483,648|-9,223,372,036,854,775,808", "%,d|%,d|%,d|%,d", -999, -1000, Integer.MIN_VALUE,
            Long.MIN_VALUE);
    }

    private static void signs() {
        check.sentence("+ puts + before what is not negative, blank a blank; negative: -, with ( it is put in ( and ) instead");
        prints("+1|+0|-1", "%+d|%+d|%+d", 1, 0, -1);
        prints(" 1| 0|-1", "% d|% d|% d", 1, 0, -1);
        prints("1|0|(1)", "%(d|%(d|%(d", 1, 0, -1);
        prints("+1|+0|(1)", "%+(d|%(+d|%+(d", 1, 0, -1);
        prints(" 1| 0|(1)", "% (d|%( d|% (d", 1, 0, -1);
        prints("(9,223,372,036,854,775,808)|(2,147,483,648)|+1,000", "%,(d|%(,d|%+,d", Long.MIN_VALUE, Integer.MIN_VALUE,
            1000);
    }

    private static void zeros() {
        check.sentence("0 puts zeros behind the sign, (, 0x, up to width ( the ) counts), without , between them");
        prints("5|05|005|0000000005", "%01d|%02d|%03d|%010d", 5, 5, 5, 5);
        prints("-5|-5|-05|-005", "%01d|%02d|%03d|%04d", -5, -5, -5, -5);
        prints("+5|+5|+05| 5| 05", "%+01d|%+02d|%+03d|% 02d|% 03d", 5, 5, 5, 5, 5);
        prints("(5)|(5)|(5)|(05)|(005)", "%(01d|%(02d|%(03d|%(04d|%(05d", -5, -5, -5, -5, -5);
        prints("5|05|+05", "%(01d|%(02d|%+(03d", 5, 5, 5);
        prints("1,234|1,234|01,234|00001,234|(01,234)|(1,234)", "%,04d|%,05d|%,06d|%,09d|%,(08d|%,(07d", 1234, 1234, 1234,
            1234, -1234, -1234);
        prints("ff|ff|0ff|0000ff", "%01x|%02x|%03x|%06x", 255, 255, 255, 255);
        prints("0xff|0xff|0x0ff|0x00ff", "%#03x|%#04x|%#05x|%#06x", 255, 255, 255, 255);
        prints("0XFF|0X0FF", "%#04X|%#05X", 255, 255);
        prints("0377|0377|00377|000377", "%#03o|%#04o|%#05o|%#06o", 255, 255, 255, 255);
        prints("377|0377|00377", "%03o|%04o|%05o", 255, 255, 255);
        prints("-" + "0".repeat(9997) + "7", "%09999d", -7);
        prints("(" + "0".repeat(9996) + "7)", "%(09999d", -7);
        prints("0x" + "0".repeat(9996) + "7", "%#09999x", 7);
    }

    private static void unsigned() {
        check.sentence("o, x: of the number without sign, 32 bits of an INT, 64 of a LONG; # puts 0, 0x before");
        prints("0|0|0|0", "%o|%x|%o|%x", 0, 0, 0L, 0L);
        prints("00|0x0|0X0|00|0x0", "%#o|%#x|%#X|%#o|%#x", 0, 0, 0, 0L, 0L);
        prints("7|10|f|10|1f", "%o|%o|%x|%x|%x", 7, 8, 15, 16, 31);
        prints("37777777777|ffffffff|20000000000|80000000", "%o|%x|%o|%x", -1, -1, Integer.MIN_VALUE, Integer.MIN_VALUE);
        prints("17777777777|7fffffff", "%o|%x", Integer.MAX_VALUE, Integer.MAX_VALUE);
        prints("1777777777777777777777|ffffffffffffffff", "%o|%x", -1L, -1L);
        prints("1000000000000000000000|8000000000000000", "%o|%x", Long.MIN_VALUE, Long.MIN_VALUE);
        prints("777777777777777777777|7fffffffffffffff", "%o|%x", Long.MAX_VALUE, Long.MAX_VALUE);
        prints("ffffffff|100000000|fffffffffffffffe|fffffffe", "%x|%x|%x|%x", 0xffffffffL, 1L << 32, -2L, -2);
        prints("0123456701234567|123456789abcdef0|123456789ABCDEF0", "%#o|%x|%X", 0123456701234567L, 0x123456789abcdef0L,
            0x123456789abcdef0L);
        prints("0377|0xff|0XFF", "%#o|%#x|%#X", 255, 255, 255L);
    }

    private static void widths() {
        check.sentence("Shorter than width: blanks before, behind with -.");
        prints("42|42| 42|42 |42|42", "%1d|%2d|%3d|%-3d|%-2d|%-1d", 42, 42, 42, 42, 42, 42);
        prints("-42|-42| -42|-42 ", "%2d|%3d|%4d|%-4d", -42, -42, -42, -42);
        prints("(42)|(42)| (42)|(42) ", "%(3d|%(4d|%(5d|%(-5d", -42, -42, -42, -42);
        prints("+42| +42|+42 |  42| 42 ", "%+3d|%+4d|%+-4d|% 4d|% -4d", 42, 42, 42, 42, 42);
        prints("1,234| 1,234|1,234 ", "%,5d|%,6d|%,-6d", 1234, 1234, 1234);
        prints("ff| ff|ff |0xff| 0xff|0xff |0377| 0377|0377 ", "%2x|%3x|%-3x|%#4x|%#5x|%#-5x|%#4o|%#5o|%#-5o", 255, 255, 255,
            255, 255, 255, 255, 255, 255);
    }
}
