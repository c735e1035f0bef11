import java.util.Map;
import java.util.function.Supplier;

/** Promise 12: compile. */
public final class Promise12Test {
    private static final Class<UnsupportedOperationException> WRONG = UnsupportedOperationException.class;
    private static final Class<IllegalStateException> BARRED = IllegalStateException.class;
    private static final Class<IndexOutOfBoundsException> TOO_LONG = IndexOutOfBoundsException.class;

    private static Check check = new Check("Promise 12");
    private static Subject x = new Subject();

    public static void main(String[] args) {
        numbersOfFormats();
        lengths();
        literals();
        conversions();
        positions();
        greatNumbers();
        wrong();
        firstWrong();
        Promise12Barred.all(check);
        behindWrong();
        keepsOld();
        manyInTurn();
        order();
        answer();
        shortTexts();
        check.done();
    }

    private static Subject some() {
        if (x.calls() > Subject.PROMISED_CALLS - 120) {
            x = new Subject();
        }
        return x;
    }

    static void compiles(Check check, String s, int due) {
        Subject y = some().put(s);
        check.answers("compile of [" + Check.told(s) + "]", due, () -> y.compile(3));
        check.answers("the place behind [" + Check.told(s) + "]", -1, () -> y.count(3));
        check.answers("the tape", 0, () -> y.count(0));
    }

    static void refuses(Check check, String s, Class<? extends RuntimeException> due, int place) {
        Subject y = some().put(s);
        check.refuses("compile of [" + Check.told(s) + "]", due, () -> y.compile(4));
        check.answers("the place behind [" + Check.told(s) + "]", place, () -> y.count(3));
        check.answers("the tape", 0, () -> y.count(0));
        check.refuses("format of it", BARRED, () -> y.format(4));
    }

    private static void numbersOfFormats() {
        check.sentence("f 0 .. 7 (else the TAPE stays as it is)");
        for (int f : new int[] {-1, 8, 9, 256, 263, Integer.MIN_VALUE, Integer.MAX_VALUE}) {
            Map<String, String> now = check.refusesChanging("compile(" + f + ")", IllegalArgumentException.class,
                State::rich, y -> y.compile(f));
            check.due("the tape", now.get(Check.TAPE), "16:12.5 on the tape");
            check.refusesChanging("compile(" + f + ") of no bytes", IllegalArgumentException.class,
                () -> State.rich().put(""), y -> y.compile(f));
        }
        Subject y = new Subject();
        for (int f = 0; f < 8; f++) {
            int g = f;
            y.put("format " + f + " %%");
            check.answers("compile(" + f + ")", 1, () -> y.compile(g));
            check.answers("formats", f + 1, () -> y.count(4));
        }
        for (int f = 0; f < 8; f++) {
            y.format(f);
            check.due("format " + f, y.result(), "format " + f + " %");
        }
    }

    private static void lengths() {
        check.sentence("The TAPE, at most 1000 bytes (more: IndexOutOfBoundsException)");
        compiles(check, "", 0);
        compiles(check, "a", 0);
        compiles(check, "a".repeat(999), 0);
        compiles(check, "a".repeat(1000), 0);
        compiles(check, "%%".repeat(500), 500);
        compiles(check, "%n".repeat(498) + "aa%s", 499);
        compiles(check, "%5s".repeat(333) + "a", 333);
        compiles(check, "%." + "0".repeat(993) + "9999f", 1);
        for (String s : new String[] {"a".repeat(1001), "%%".repeat(500) + "a", "%".repeat(1001), "%-d".repeat(400),
            "a".repeat(1001) + "%", "a".repeat(1002), "a".repeat(1256), "a".repeat(2000)}) {
            Map<String, String> now = check.refusesChanging("compile of " + s.length() + " bytes", TOO_LONG,
                () -> State.rich().put(s), y -> y.compile(1), Check.TAPE, Check.PLACE);
            check.due("the tape", now.get(Check.TAPE), "0:");
            check.due("no place is told", now.get(Check.PLACE), "-1");
        }
        Subject y = new Subject().put("a".repeat(1001));
        y.end(1000);
        check.answers("1001 cut to 1000", 0, () -> y.compile(0));
        check.answers("format of it", 1000, () -> y.format(0));
        refuses(check, "a".repeat(999) + "%", WRONG, 999);
        refuses(check, "a".repeat(997) + "%5q", WRONG, 997);
        refuses(check, "a".repeat(997) + "%-d", BARRED, 997);
        refuses(check, "%%".repeat(499) + "a%", WRONG, 999);
    }

    private static void literals() {
        check.sentence("A FORMAT is a text: all stands for itself but DIRECTIVES");
        for (int from = 0; from < 256; from += 64) {
            StringBuilder all = new StringBuilder();
            for (int c = from; c < from + 64; c++) {
                all.append(c == '%' ? "" : (char) c);
            }
            compiles(check, all.toString(), 0);
            x.format(3);
            check.due("it stands for itself", x.result(), all.toString());
        }
        compiles(check, "$<-#+ 0,(1$5.3doxXeEfgGaAcCsSbBn", 0);
        compiles(check, "d%sd", 1);
    }

    private static void conversions() {
        check.sentence("Conversion: d o x X e E f g G a A c C s S b B % n");
        for (int c = 0; c < 256; c++) {
            String s = "%" + (char) c;
            if ("doxXeEfgGaAcCsSbB%n".indexOf(c) >= 0) {
                compiles(check, s, 1);
                compiles(check, s + s, 2);
            } else {
                refuses(check, s, WRONG, 0);
                refuses(check, "%5" + (char) c, WRONG, 0);
            }
        }
        compiles(check, "%d%o%x%X%e%E%f%g%G%a%A%c%C%s%S%b%B%%%n", 19);
        compiles(check, "%%d", 1);
        compiles(check, "%%%d", 2);
        compiles(check, "%%%%", 2);
        refuses(check, "%%%", WRONG, 2);
    }

    private static void positions() {
        check.sentence("% [digits $ | <] {flags} [width] [. precision] conversion");
        for (String s : new String[] {"%1$d", "%<d", "%1$+d", "%<+d", "%1$5d", "%<5d", "%1$-5d", "%1$+,(05d", "%5d", "%+d",
            "%+5d", "%.3f", "%5.3f", "%+.3f", "%1$.3f", "%<.3f", "%1$+5.3f", "%<+5.3f", "%1$-#+,(5.3f", "%10$d", "%19$d",
            "%.0f", "%.00f", "%.05f", "%90d", "%9$90d"}) {
            compiles(check, s, 1);
        }
        for (String s : new String[] {"%$d", "%1$", "%<", "%5", "%5.", "%.", "%.d", "%5.d", "%.f", "%+.f", "%.+3f", "%.-3f",
            "%.3.3f", "%..3f", "%5+d", "%5-d", "%5 d", "%5,d", "%5(d", "%5#x", "%+5+d", "%.3+f", "%.3-f", "%.3 f",
            "%.3<f", "%.3$f", "%5<d", "%+<d", "%+1$d", "%-5$d", "%5.3$f", "%1$1$d", "%1$2$d", "%1$$d", "%<<d", "%<1$d",
            "%<$d", "%1<d", "%-", "%+", "%0", "%1$5", "%1$+", "%1$.", "%l", "%ld", "%hd", "%*d", "%1$*d", "%i", "%u", "%F",
            "%D", "%O", "%N", "%h", "%H", "%t", "%T", "%tY", "% ", "%\n", "%\0", "%\u00e4"}) {
            refuses(check, s, WRONG, 0);
        }
        check.sentence("(digits $ begin with 1 .. 9 and stand first; 0 first is a flag: %05$d, %1$<d are none.)");
        for (String s : new String[] {"%05$d", "%1$<d", "%0$d", "%00$d", "%01$d", "%001$d", "%-05$d", "%01$5d", "%0<d",
            "%010$d"}) {
            refuses(check, s, WRONG, 0);
        }
        check.sentence("width: digits that do not begin with 0");
        compiles(check, "%05d", 1);
        compiles(check, "%1$05d", 1);
        compiles(check, "%100d", 1);
        refuses(check, "%005d", BARRED, 0);
        refuses(check, "%00d", BARRED, 0);
        refuses(check, "%0d", BARRED, 0);
    }

    private static void greatNumbers() {
        check.sentence("Numbers above 9999 are none (by value: zeros first do not matter)");
        for (String n : new String[] {"1", "9", "10", "9998", "9999"}) {
            compiles(check, "%" + n + "$d", 1);
            compiles(check, "%" + n + "d", 1);
            compiles(check, "%-" + n + "d", 1);
            compiles(check, "%0" + n + "d", 1);
            compiles(check, "%." + n + "f", 1);
            compiles(check, "%.0" + n + "f", 1);
            compiles(check, "%.00000000000000000000" + n + "f", 1);
            compiles(check, "%" + n + "$" + n + "." + n + "f", 1);
        }
        for (String n : new String[] {"10000", "10001", "65536", "65537", "99999", "2147483647", "2147483648", "4294967296",
            "4294967297", "42949672960", "9223372036854775807", "9223372036854775808", "18446744073709551617",
            "1" + "0".repeat(900), "9".repeat(900)}) {
            refuses(check, "%" + n + "$d", WRONG, 0);
            refuses(check, "%" + n + "d", WRONG, 0);
            refuses(check, "%-" + n + "d", WRONG, 0);
            refuses(check, "%0" + n + "d", WRONG, 0);
            refuses(check, "%." + n + "f", WRONG, 0);
            refuses(check, "%.0" + n + "f", WRONG, 0);
            refuses(check, "%.0000000000000000000" + n + "f", WRONG, 0);
            refuses(check, "%5." + n + "f", WRONG, 0);
        }
        // a number that is none is so with every conversion, before anything is barred
        for (char c : "doxXeEfgGaAcCsSbB%n".toCharArray()) {
            refuses(check, "%10000" + c, WRONG, 0);
            refuses(check, "%.10000" + c, WRONG, 0);
            refuses(check, "%10000$" + c, WRONG, 0);
        }
    }

    private static void wrong() {
        check.sentence("A % that is not such: WRONG at its PLACE");
        refuses(check, "%", WRONG, 0);
        refuses(check, "a%", WRONG, 1);
        refuses(check, "%d%", WRONG, 2);
        refuses(check, "%%%", WRONG, 2);
        refuses(check, "%d%%%n %", WRONG, 7);
        refuses(check, "100%; sure", WRONG, 3);
        refuses(check, "%5%%", WRONG, 3);
        refuses(check, "%.%", WRONG, 0);
        refuses(check, "%1$5%%q", WRONG, 5);
        refuses(check, "\n\0%k", WRONG, 2);
    }

    private static void firstWrong() {
        check.sentence("WRONG at its PLACE (the first one in the FORMAT, from 0)");
        refuses(check, "%k%q", WRONG, 0);
        refuses(check, "%d%k%q", WRONG, 2);
        refuses(check, "a%d %k %q", WRONG, 4);
        refuses(check, "%%k%k", WRONG, 3);
        refuses(check, "%n%n%n%10000d%k", WRONG, 6);
    }

    private static void behindWrong() {
        check.sentence("BARRED, looked at from left to right behind all WRONG, PLACE that of the %");
        refuses(check, "%-d%k", WRONG, 3);
        refuses(check, "%--5d %k", WRONG, 6);
        refuses(check, "%k%-d", WRONG, 0);
        refuses(check, "%d%Y%++d%K", WRONG, 2);
        refuses(check, "%-d".repeat(333) + "%", WRONG, 999);
        refuses(check, "%-d%#d", BARRED, 0);
        refuses(check, "%d%#d%-d", BARRED, 2);
        refuses(check, "ab %d %+s %5n", BARRED, 6);
        refuses(check, "%%%5n", BARRED, 2);
        refuses(check, "%5%%-%", BARRED, 3);
        refuses(check, "100% sure", BARRED, 3);
        refuses(check, "%d".repeat(498) + "%-d", BARRED, 996);
    }

    private static void keepsOld() {
        check.sentence("PLACE is told, FORMAT f stays as it was");
        Object[][] rows = {{"new %d %k", WRONG, "7"}, {"newer %-d", BARRED, "6"}, {"%", WRONG, "0"}, {"%n%<n", BARRED, "2"}};
        for (Object[] row : rows) {
            @SuppressWarnings("unchecked")
            Class<? extends RuntimeException> due = (Class<? extends RuntimeException>) row[1];
            for (int f : new int[] {1, 2, 6}) {
                Supplier<Subject> maker = () -> State.rich().put((String) row[0]);
                Map<String, String> now =
                    check.refusesChanging("compile(" + f + ")", due, maker, y -> y.compile(f), Check.TAPE, Check.PLACE);
                check.due("the tape", now.get(Check.TAPE), "0:");
                check.due("the place", now.get(Check.PLACE), row[2]);
                String formats = now.get(Check.FORMATS);
                check.due("the formats", formats, "3|one A, B|throws.IllegalStateException|throws.IllegalStateException|"
                    + "throws.IllegalStateException|throws.IllegalStateException|six B\n|seven");
            }
        }
        Subject y = new Subject().withFormat(2, "old %%");
        y.put("new %d %k");
        check.refuses("a wrong one", WRONG, () -> y.compile(2));
        y.put("newer %d %-d");
        check.refuses("a barred one", BARRED, () -> y.compile(2));
        y.put("n".repeat(1001));
        check.refuses("a long one", TOO_LONG, () -> y.compile(2));
        y.format(2);
        check.due("the old one", y.result(), "old %");
        y.put("newest %s").compile(2);
        check.answers("formats", 1, () -> y.count(4));
        y.with("x").format(2);
        check.due("a good one takes its place", y.result(), "newest x");
        y.put("").compile(2);
        check.answers("an empty one takes its place", 0, () -> y.format(2));
        check.answers("formats", 1, () -> y.count(4));
    }

    /** Good and faulty ones in turn, at all numbers: each format is its own. */
    private static void manyInTurn() {
        check.sentence("The TAPE ... is FORMAT f from now on; WRONG, BARRED: FORMAT f stays as it was");
        Subject y = new Subject().with("x");
        String[] due = new String[8];
        for (int round = 0; round < 3; round++) {
            for (int i = 0; i < 8; i++) {
                int f = (i * 5 + round) % 8;
                y.withFormat(f, "f" + f + " round " + round + " %1$s");
                due[f] = "f" + f + " round " + round + " x";
                int g = (f + 3) % 8;
                y.put(round % 2 == 0 ? "faulty %1$s%s%s%" : "faulty %1$s%s%s%-d");
                check.refuses("a faulty one", round % 2 == 0 ? WRONG : BARRED, () -> y.compile(g));
            }
        }
        for (int f = 0; f < 8; f++) {
            y.format(f);
            check.due("format " + f, y.result(), due[f]);
        }
    }

    private static void order() {
        check.sentence("What is thrown, in this order: IllegalArgumentException: a number out of range; then as the call says");
        for (String s : new String[] {"a".repeat(1001), "%".repeat(1001), "%", "%-d"}) {
            for (int f : new int[] {-1, 8}) {
                check.refusesChanging("compile(" + f + ")", IllegalArgumentException.class, () -> State.rich().put(s),
                    y -> y.compile(f));
            }
        }
        check.refusesChanging("too long and wrong", TOO_LONG, () -> State.rich().put("%k" + "a".repeat(999)),
            y -> y.compile(1), Check.TAPE, Check.PLACE);
        check.refusesChanging("too long and barred", TOO_LONG, () -> State.rich().put("%-d" + "a".repeat(998)),
            y -> y.compile(1), Check.TAPE, Check.PLACE);
        refuses(check, "%k" + "a".repeat(998), WRONG, 0);
        refuses(check, "%-d" + "a".repeat(997), BARRED, 0);
    }

    private static void answer() {
        check.sentence("The TAPE ... is FORMAT f from now on. Answers how many DIRECTIVES it has.");
        Supplier<Subject> maker = () -> State.rich().put("new %s%%%2$s%n");
        for (int f : new int[] {1, 2}) {
            Map<String, String> now =
                check.changes("compile(" + f + ")", "4", maker, y -> y.compile(f), Check.TAPE, Check.PLACE, Check.FORMATS);
            check.due("the tape", now.get(Check.TAPE), "0:");
            check.due("the place", now.get(Check.PLACE), "-1");
            check.due("the formats", now.get(Check.FORMATS), (f == 1 ? "3|new A%B\n|throws.IllegalStateException"
                : "4|one A, B|new A%B\n") + "|throws.IllegalStateException".repeat(3) + "|six B\n|seven");
        }
        for (int many = 0; many <= 20; many++) {
            compiles(check, "%s, ".repeat(many), many);
        }
        // what comes to the tape later is not seen in the format
        Subject y = new Subject().put("first");
        y.compile(0);
        y.put("second one");
        y.format(0);
        check.due("the format", y.result(), "first");
    }

    /** All that can stand behind a % up to four bytes, of every kind of byte, against the model. */
    private static void shortTexts() {
        check.sentence("% [digits $ | <] {flags} [width] [. precision] conversion");
        String kinds = "d%n.$<0159-#+q";
        int many = kinds.length();
        Model model = new Model();
        for (int code = 0; code < many * many * many * many; code++) {
            StringBuilder s = new StringBuilder("%");
            for (int i = 0, left = code; i < 4; i++, left /= many) {
                s.append(kinds.charAt(left % many));
            }
            Subject y = some().put(s.toString());
            model.tape = s.toString();
            check.due("compile of [" + s + "]", Check.answer(() -> y.compile(0)), Check.answer(() -> model.compile(0)));
            check.due("the place behind [" + s + "]", y.count(3), model.count(3));
        }
    }
}
