import java.util.Map;
import java.util.NoSuchElementException;
import java.util.function.Supplier;

/** Promise 13: format; what each conversion prints is in the other tests under this number. */
public final class Promise13Test {
    private static final Class<NoSuchElementException> MISSING = NoSuchElementException.class;
    private static final Class<UnsupportedOperationException> UNFIT = UnsupportedOperationException.class;
    private static final Class<IndexOutOfBoundsException> TOO_LONG = IndexOutOfBoundsException.class;
    private static final int MOST = 32768;

    private static Check check = new Check("Promise 13");

    public static void main(String[] args) {
        numbersOfFormats();
        noFormat();
        indices();
        missing();
        fitting();
        unfit();
        lengths();
        tooLong();
        firstOfAll();
        result();
        check.done();
    }

    static Subject made(String format, Object... values) {
        return new Subject().with(values).withFormat(5, format);
    }

    /** The format prints this with these as its arguments. */
    static void prints(Check check, String due, String format, Object... values) {
        Subject x = made(format, values);
        String told = "format [" + Check.told(format) + "]";
        check.answers(told, due.length(), () -> x.format(5));
        check.answers("the place behind " + told, -1, () -> x.count(3));
        check.due(told, due.length() < 2000 ? x.result() : Check.longResult(() -> printed(format, values)), due);
    }

    private static Subject printed(String format, Object... values) {
        Subject x = made(format, values);
        x.format(5);
        return x;
    }

    private static Subject rich(String format, Object... values) {
        Subject x = State.rich();
        x.clear();
        return x.with(values).withFormat(5, format);
    }

    /** The format is refused, tells this place, and empties the result; nothing else changes. */
    private static void refuses(Class<? extends RuntimeException> due, int place, String format, Object... values) {
        String told = "format [" + Check.told(format) + "]";
        Map<String, String> now = check.refusesChanging(told, due, () -> rich(format, values), x -> x.format(5),
            Check.PLACE, Check.RESULT);
        check.due("the place behind " + told, now.get(Check.PLACE), Integer.toString(place));
        check.due("the result behind " + told, now.get(Check.RESULT), "");
    }

    private static void numbersOfFormats() {
        check.sentence("IllegalArgumentException: a number out of range");
        for (int f : new int[] {-1, 8, 9, 256, Integer.MIN_VALUE, Integer.MAX_VALUE}) {
            check.refusesChanging("format(" + f + ")", IllegalArgumentException.class, State::rich, x -> x.format(f));
        }
        check.sentence("f 0 .. 7");
        for (int f = 0; f < 8; f++) {
            int g = f;
            Subject x = new Subject().withFormat(f, "f%s").with(f);
            check.answers("format(" + f + ")", 2, () -> x.format(g));
            check.due("format(" + f + ")", x.result(), "f" + f);
        }
    }

    private static void noFormat() {
        check.sentence("There is no FORMAT f: IllegalStateException (THE RESULT stays).");
        for (int f : new int[] {0, 2, 3, 4, 5}) {
            Map<String, String> now = check.refusesChanging("format(" + f + ")", IllegalStateException.class, State::rich,
                x -> x.format(f));
            check.due("the result", now.get(Check.RESULT), "1234.5");
            check.due("the place", now.get(Check.PLACE), "3");
        }
        Subject x = new Subject().put("%k");
        check.refuses("a wrong one", UNFIT, () -> x.compile(0));
        check.refuses("is none", IllegalStateException.class, () -> x.format(0));
    }

    private static void indices() {
        check.sentence("INDEX: n $ ARGUMENT n - 1");
        Object[] all = {"a", "b", "c", "d", "e", "f", "g", "h", "i", "j", "k", "l", "m", "n", "o", "p"};
        prints(check, "abp", "%1$s%2$s%16$s", all);
        prints(check, "a", "%1$s", "a");
        prints(check, "bbab", "%2$s%2$s%1$s%2$s", "a", "b");
        check.sentence("< the same as the DIRECTIVE before that takes one");
        prints(check, "aaab", "%s%<s%<s%s", "a", "b");
        prints(check, "bbba", "%2$s%<s%<s%s", "a", "b");
        prints(check, "a%a\na", "%s%%%<s%n%<s", "a");
        prints(check, "a    %a\n\n%a", "%s%5%%<s%n%n%%%<s", "a");
        prints(check, "p p", "%16$s %<s", all);
        check.sentence("else the next of those that are taken so (from 0, whatever the others take)");
        prints(check, "abcdefghijklmnop", "%s".repeat(16), all);
        prints(check, "baabbcc", "%2$s%1$s%s%s%2$s%s%<s", "a", "b", "c");
        prints(check, "ccabb", "%3$s%<s%s%s%<s", "a", "b", "c");
        prints(check, "a%b\nc", "%s%%%s%n%s", "a", "b", "c");
        check.sentence("% and n take none (n prints the byte 10)");
        prints(check, "%\n", "%%%n");
        prints(check, "%\n", "%%%n", "a");
        prints(check, "    %|%    |%|%", "%5%|%-5%|%1%|%-1%");
        prints(check, " ".repeat(9998) + "%", "%9999%");
    }

    private static void missing() {
        check.sentence("There is no such ARGUMENT: MISSING: NoSuchElementException");
        refuses(MISSING, 0, "%s");
        refuses(MISSING, 3, "%s %s", 1);
        refuses(MISSING, 2, "%s%s%s%s", 1);
        refuses(MISSING, 1, " %1$s");
        refuses(MISSING, 0, "%2$s", 1);
        refuses(MISSING, 5, "%1$s %2$s%1$s", 1);
        refuses(MISSING, 0, "%16$s", 1, 2, 3, 4, 5, 6, 7, 8, 9, 10, 11, 12, 13, 14, 15);
        Object[] all = {1, 2, 3, 4, 5, 6, 7, 8, 9, 10, 11, 12, 13, 14, 15, 16};
        refuses(MISSING, 0, "%17$s", all);
        refuses(MISSING, 0, "%9999$s", all);
        refuses(MISSING, 32, "%d".repeat(17), all);
        refuses(MISSING, 6, "%16$s %17$s", all);
        check.sentence("(none: MISSING)");
        refuses(MISSING, 0, "%<s", 1);
        refuses(MISSING, 0, "%<s%s", 1);
        refuses(MISSING, 4, "%%%n%<s", 1);
        refuses(MISSING, 0, "%<s");
        check.sentence("MISSING, whatever the DIRECTIVE takes");
        for (char c : "doxXeEfgGaAcCsSbB".toCharArray()) {
            refuses(MISSING, 2, "ab%" + c);
        }
    }

    /** All kinds of arguments with all conversions: those that take them are named. */
    private static void fitting() {
        check.sentence("s S b B take all; c C CHARACTERS, and INTS 32 .. 126; d o x X INTS and LONGS;"
            + " e E f g G a A FLOATS and DOUBLES; none (KIND 0) is taken by all. Else UNFIT.");
        Object[] kinds = {true, 'c', 65, 65L, 1f, 1.0, "t", null, false, 31, 127};
        String[] taken = {"", "cC", "cCdoxX", "doxX", "eEfgGaA", "eEfgGaA", "", "cCdoxXeEfgGaA", "", "doxX", "doxX"};
        for (int i = 0; i < kinds.length; i++) {
            for (char c : "sSbBcCdoxXeEfgGaA".toCharArray()) {
                Object[] one = {kinds[i]};
                if ((taken[i] + "sSbB").indexOf(c) < 0) {
                    refuses(UNFIT, 2, "ab%" + c, one);
                } else {
                    Subject x = made("ab%" + c, one);
                    check.due("%" + c + " of " + kinds[i], Check.answer(() -> x.format(5)).startsWith("throws"), false);
                    check.answers("the place", -1, () -> x.count(3));
                }
            }
        }
    }

    private static void unfit() {
        check.sentence("c C CHARACTERS, and INTS 32 .. 126; UNFIT: UnsupportedOperationException");
        prints(check, " |~| |~", "%c|%c|%C|%C", 32, 126, 32, 126);
        for (int v : new int[] {31, 127, 0, -1, 128, 255, 256 + 65, 65536 + 65, Integer.MIN_VALUE, Integer.MAX_VALUE}) {
            refuses(UNFIT, 0, "%c", v);
            refuses(UNFIT, 0, "%C", v);
        }
        for (long v : new long[] {32, 65, 126}) {
            refuses(UNFIT, 0, "%c", v);
        }
        check.sentence("At the first DIRECTIVE where it is so, its PLACE is told");
        refuses(UNFIT, 4, "%s%n%d%s", true, "no number");
        refuses(UNFIT, 0, "%d%f", 1.5, 1);
        refuses(UNFIT, 2, "%d%f", 1, 1);
        refuses(UNFIT, 1, "a%1$xb%1$d", 1.5);
        refuses(UNFIT, 4, "%1$s%<d", "t");
        refuses(UNFIT, 996, "%n".repeat(498) + "%1$d", "t");
    }

    private static void lengths() {
        check.sentence("THE RESULT at most 32768; it gets longer than 32768: IndexOutOfBoundsException");
        String three = "%1$9999b%1$9999b%1$9999b";
        String full = (" ".repeat(9995) + "true").repeat(3);
        prints(check, full + " ".repeat(2766) + "true", three + "%1$2770b", true);
        prints(check, full + " ".repeat(2767) + "true", three + "%1$2771b", true);
        prints(check, full + " ".repeat(2766) + "truex", three + "%1$2770bx", true);
        prints(check, full + " ".repeat(2766) + "true%", three + "%1$2770b%%", true);
        prints(check, full + " ".repeat(2766) + "true\n", three + "%1$2770b%n", true);
        prints(check, full + "true" + " ".repeat(2767), three + "%1$-2771b", true);
        prints(check, full + "0".repeat(2770) + "1", three + "%2$02771d", true, 1);
        prints(check, full + "1." + "0".repeat(2769), three + "%2$.2769f", true, 1.0);
        prints(check, full + " ".repeat(2766) + "1,234", three + "%2$,2771d", true, 1234);
        prints(check, full + "t".repeat(200).repeat(13) + "t".repeat(171), three + "%2$s".repeat(13) + "%2$.171s", true,
            "t".repeat(200));
        prints(check, full + " ".repeat(2767) + "true", three + "%1$2771b%2$s", true, "");
    }

    private static void tooLong() {
        check.sentence("it gets longer than 32768, as it is printed from left to right: IndexOutOfBoundsException (PLACE -1)");
        String three = "%1$9999b%1$9999b%1$9999b";
        refuses(TOO_LONG, -1, three + "%1$2772b", true);
        refuses(TOO_LONG, -1, three + "%1$-2772b", true);
        refuses(TOO_LONG, -1, three + "%1$9999b", true);
        refuses(TOO_LONG, -1, three + "%1$2771bx", true);
        refuses(TOO_LONG, -1, three + "%1$2771bx%1$s", true);
        refuses(TOO_LONG, -1, three + "%1$2771b%%", true);
        refuses(TOO_LONG, -1, three + "%1$2771b%n", true);
        refuses(TOO_LONG, -1, three + "%1$2770b%n%n", true);
        refuses(TOO_LONG, -1, three + "%1$2771b%2$c", true, 'c');
        refuses(TOO_LONG, -1, three + "%2$02772d", true, 1);
        refuses(TOO_LONG, -1, three + "%2$0(2772d", true, -1);
        refuses(TOO_LONG, -1, three + "%1$2768b%2$(d", true, -12);
        refuses(TOO_LONG, -1, three + "%2$.2770f", true, 1.5);
        refuses(TOO_LONG, -1, three + "%1$2767b%1$s%2$x", true, 1);
        refuses(TOO_LONG, -1, three + "%1$2770b%2$s", true, "tt");
        refuses(TOO_LONG, -1, three + "%1$2770b%2$S", true, "tt");
        refuses(TOO_LONG, -1, three + "x".repeat(900) + "%1$1900b", true);
        refuses(TOO_LONG, -1, "%1$9999b".repeat(100), true);
    }

    /** What is met first, from left to right, is thrown; one DIRECTIVE that is not printed makes nothing longer. */
    private static void firstOfAll() {
        check.sentence("At the first DIRECTIVE where it is so");
        String three = "%1$9999b%1$9999b%1$9999b";
        refuses(UNFIT, 0, "%f%2$d", 1);
        refuses(MISSING, 0, "%2$d%f", 1);
        refuses(MISSING, 2, "%d%2$d%1$f", 1);
        refuses(UNFIT, 2, "%d%1$f%2$d", 1);
        refuses(TOO_LONG, -1, three + "%1$9999b%2$s", true);
        refuses(TOO_LONG, -1, three + "%1$2772b%2$s", true);
        refuses(TOO_LONG, -1, three + "%1$2771bx%2$s", true);
        refuses(TOO_LONG, -1, three + "%1$2771bx%1$d", true);
        refuses(TOO_LONG, -1, three + "%-2772%%1$f", true);
        refuses(MISSING, 32, three + "%1$2771b%2$s", true);
        refuses(MISSING, 32, three + "%1$2771b%2$sx", true);
        refuses(MISSING, 24, three + "%2$9999s", true);
        refuses(MISSING, 24, three + "%2$9999s%1$9999s", true);
        refuses(UNFIT, 32, three + "%1$2771b%1$d", true);
        refuses(UNFIT, 24, three + "%1$9999d", true);
        refuses(UNFIT, 24, three + "%1$9999d" + three, true);
    }

    private static void result() {
        check.sentence("It is printed with the ARGUMENTS: THE RESULT. Answers how many bytes.");
        Supplier<Subject> maker = () -> rich("%s and %s", 1, "two");
        Map<String, String> now = check.changes("format", "9", maker, x -> x.format(5), Check.PLACE, Check.RESULT);
        check.due("the place", now.get(Check.PLACE), "-1");
        check.due("the result", now.get(Check.RESULT), "1 and two");
        for (int f : new int[] {7, 5}) {
            Map<String, String> bare = check.changes("format(" + f + ") without directives", "5",
                () -> f == 7 ? State.rich() : State.rich().withFormat(5, "seven"), x -> x.format(f), Check.PLACE,
                Check.RESULT);
            check.due("the place", bare.get(Check.PLACE), "-1");
            check.due("the result", bare.get(Check.RESULT), "seven");
        }
        prints(check, "", "");
        prints(check, "", "%s", "");
        prints(check, "no directive \0\u00ff", "no directive \0\u00ff", 1, 2);
        Subject x = made("%d", 1);
        x.format(5);
        x.format(5);
        check.due("once more", x.result(), "1");
        x.clear();
        x.argument(3, 22);
        x.format(5);
        check.due("with others", x.result(), "22");
        check.due("the most", Check.longResult(() -> printed("%1$9999s%1$9999s%1$9999s%1$2771s", "x")).length(), MOST);
    }
}
