/** Promise 13, and what s, b and c print, and none with every conversion. */
public final class Promise13PlainTest {
    private static Check check = new Check("Promise 13, s b c");

    public static void main(String[] args) {
        strings();
        truths();
        characters();
        none();
        precisions();
        capitals();
        widths();
        check.done();
    }

    private static void prints(String due, String format, Object... values) {
        Promise13Test.prints(check, due, format, values);
    }

    private static void strings() {
        check.sentence("s: true, false; the character; an INT, LONG as d; SHORTEST of a FLOAT, DOUBLE; the TEXT");
        prints("true|false| |~|a", "%s|%s|%s|%s|%s", true, false, ' ', '~', 'a');
        prints("0|-1|-2147483648|2147483647", "%s|%s|%s|%s", 0, -1, Integer.MIN_VALUE, Integer.MAX_VALUE);
        prints("0|-1|-9223372036854775808|9223372036854775807", "%s|%s|%s|%s", 0L, -1L, Long.MIN_VALUE, Long.MAX_VALUE);
        prints("0.1|-0.0|1.4E-45|3.4028235E38|NaN|Infinity|-Infinity", "%s|%s|%s|%s|%s|%s|%s", 0.1f, -0f, Float.MIN_VALUE,
            Float.MAX_VALUE, Float.NaN, Float.POSITIVE_INFINITY, Float.NEGATIVE_INFINITY);
        prints("0.1|-0.0|4.9E-324|1.7976931348623157E308|NaN|Infinity|-Infinity", "%s|%s|%s|%s|%s|%s|%s", 0.1, -0.0,
            Double.MIN_VALUE, Double.MAX_VALUE, Double.NaN, Double.POSITIVE_INFINITY, Double.NEGATIVE_INFINITY);
        prints("0.001|9.0E-4|9999999.0|1.0E7|0.10000000149011612", "%s|%s|%s|%s|%s", 0.001, 0.0009, 9999999.0, 1e7,
            (double) 0.1f);
        prints("|t|" + "x".repeat(200), "%s|%s|%s", "", "t", "x".repeat(200));
        prints("%d \0\u00ff\n", "%s", "%d \0\u00ff\n");
    }

    private static void truths() {
        check.sentence("b: true, but false for none and a TRUTH 0");
        prints("true|false|false", "%b|%b|%b", true, false, null);
        prints("true|true|true|true|true|true|true|true", "%b|%b|%b|%b|%b|%b|%b|%b", 'c', 0, 1, 0L, 0f, 0.0, "", "false");
        prints("true|true|true", "%b|%b|%b", Double.NaN, -0.0, "null");
    }

    private static void characters() {
        check.sentence("c C CHARACTERS, and INTS 32 .. 126");
        for (int v = 32; v <= 126; v++) {
            char capital = v >= 'a' && v <= 'z' ? (char) (v - 32) : (char) v;
            prints("" + (char) v + (char) v + capital + capital, "%1$c%2$c%1$C%2$C", (char) v, v);
        }
        prints("    c|c    |c|C    ", "%5c|%-5c|%1c|%-5C", 'c', 99, 'c', 99);
    }

    private static void none() {
        check.sentence("none (KIND 0) is taken by all, and printed as null (b: false), as s does");
        for (char c : "doxefgacs".toCharArray()) {
            prints("null", "%" + c, (Object) null);
            prints("  null|null  |null|null|null", "%6" + c + "|%<-6" + c + "|%<4" + c + "|%<3" + c + "|%<-1" + c,
                (Object) null);
        }
        for (char c : "XEGACS".toCharArray()) {
            prints("NULL|  NULL|NULL  ", "%" + c + "|%<6" + c + "|%<-6" + c, (Object) null);
        }
        prints("false|FALSE| false|FALSE ", "%b|%<B|%<6b|%<-6B", (Object) null);
        check.sentence("with a precision at most so many of its bytes");
        for (char c : "efgas".toCharArray()) {
            prints("|n|nul|null|null", "%.0" + c + "|%<.1" + c + "|%<.3" + c + "|%<.4" + c + "|%<.9999" + c, (Object) null);
            prints("  nu|nu  |NU", "%4.2" + c + "|%<-4.2" + c + "|%<.2S", (Object) null);
        }
        prints("|fals|false| fa|FA", "%.0b|%<.4b|%<.6b|%<3.2b|%<.2B", (Object) null);
        check.sentence("blanks up to width, no other flags");
        prints("null|null|null|null", "%+d|%<,d|%<(d|%< d", (Object) null);
        prints("  null|  null|  null", "%06d|%<06x|%<#06o", (Object) null);
        prints("null|null|null|null|null", "%#x|%<#o|%<#e|%<#.9f|%<#a", (Object) null);
        prints("null|null|null|null", "%+f|%< e|%<(g|%<,f", (Object) null);
        prints("   nul|  null|NULL", "%+06.3f|%<+(,06g|%<+A", (Object) null);
    }

    private static void precisions() {
        check.sentence("A precision: at most so many of its bytes.");
        prints("|t|te|tex|text|text|text", "%.0s|%<.1s|%<.2s|%<.3s|%<.4s|%<.5s|%<.9999s", "text");
        prints("|t|tru|true|true||fals|false", "%.0b|%<.1b|%<.3b|%<.4b|%<.5b|%2$.0b|%2$.4b|%2$.5b", true, false);
        prints("||t|false", "%.0s|%<.0b|%<.1s|%2$.5s", true, false);
        prints("|-|-1|-12|-12|1", "%.0s|%<.1s|%<.2s|%<.3s|%<.4s|%2$.1s", -12, 12);
        prints("|-|-922337203685477580|-9223372036854775808", "%.0s|%<.1s|%<.19s|%<.20s", Long.MIN_VALUE);
        prints("|c|c", "%.0s|%<.1s|%<.2s", 'c');
        prints("1|1.|1.5|1.5|-|-I|N", "%.1s|%<.2s|%<.3s|%<.4s|%2$.1s|%2$.2s|%3$.1S", 1.5,
            Double.NEGATIVE_INFINITY, Double.NaN);
        prints("1.0E1|0.", "%.5s|%2$.2s", 1e10f, 0.25f);
        prints("||", "%.0s|%.0S|%.3s", "", "", "");
        prints("x".repeat(199) + "|" + "x".repeat(200), "%.199s|%<.200s", "x".repeat(200));
        prints("   te|te   |te", "%5.2s|%<-5.2s|%<1.2s", "text");
    }

    private static void capitals() {
        check.sentence("X E G A C S B: with A .. Z for a .. z in all that is printed");
        prints("AZAZ@[`{/:\u00e4\u00c4\u00ff", "%S", "azAZ@[`{/:\u00e4\u00c4\u00ff");
        prints("TRUE|FALSE|TRUE|C|1.0E10|NAN|INFINITY|-INFINITY", "%S|%S|%B|%C|%S|%S|%S|%S", true, false, "x", 'c', 1e10,
            Double.NaN, Double.POSITIVE_INFINITY, Double.NEGATIVE_INFINITY);
        prints("1.5E+00|1.50000E-10|0X1.8P0|0X1.ABCDEFP0", "%.1E|%G|%A|%A", 1.5, 1.5e-10, 1.5, 0x1.abcdefp0);
        prints("NAN|INFINITY|-INFINITY|(INFINITY)|+INFINITY", "%E|%G|%A|%(E|%+G", Double.NaN, Double.POSITIVE_INFINITY,
            Double.NEGATIVE_INFINITY, Double.NEGATIVE_INFINITY, Double.POSITIVE_INFINITY);
        prints("ABCDEF|0XABCDEF|00FF", "%X|%#X|%04X", 0xabcdef, 0xabcdef, 255);
        prints("a%Ab", "a%%%Sb", "a");
    }

    private static void widths() {
        check.sentence("Shorter than width: blanks before, behind with -.");
        prints("text|text| text|  text|text|text|text |text  ", "%1s|%<4s|%<5s|%<6s|%<-1s|%<-4s|%<-5s|%<-6s", "text");
        prints("true|true| true|true ", "%3b|%<4b|%<5b|%<-5b", true);
        prints("-12|-12| -12|-12 ", "%2s|%<3s|%<4s|%<-4s", -12);
        prints("1.5|1.5| 1.5|1.5 ", "%2s|%<3s|%<4s|%<-4s", 1.5);
        prints(" |     |     ", "%1s|%5s|%-5s", "", "", "");
        prints(" ".repeat(9998) + "x|x" + " ".repeat(9998), "%9999s|%<-9999s", "x");
        prints("%|%|  %|%  ", "%%|%1%|%3%|%-3%");
        prints(" ".repeat(5) + "TEXT|TEXT" + " ".repeat(5), "%9S|%<-9S", "text");
    }
}
