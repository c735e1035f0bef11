import java.util.Map;

/** What parse and parseFloat share: which texts are NUMBER TEXTS, and what stays behind the call. */
final class NumberTexts {
    private static final Class<UnsupportedOperationException> REFUSED = UnsupportedOperationException.class;

    private final Check check;
    private final boolean wide;
    private Subject x = new Subject();

    NumberTexts(Check check, boolean wide) {
        this.check = check;
        this.wide = wide;
    }

    private long parsed(Subject y) {
        return wide ? y.parse() : y.parseFloat();
    }

    private void put(String s) {
        if (x.calls() + s.length() / 20 + 10 > Subject.PROMISED_CALLS) {
            x = new Subject();
        }
        x.put(s);
    }

    /** The text is read as these bits, and the tape is empty behind it. */
    void readsBits(String s, long due) {
        put(s);
        check.answers("[" + Check.told(s) + "]", due, () -> parsed(x));
        check.answers("the tape behind it", 0, () -> x.count(0));
    }

    void reads(String s, double due) {
        readsBits(s, wide ? Double.doubleToRawLongBits(due) : Float.floatToRawIntBits((float) due));
    }

    void refuses(String s) {
        put(s);
        check.refuses("[" + Check.told(s) + "]", REFUSED, () -> parsed(x));
        check.answers("the tape behind it", 0, () -> x.count(0));
    }

    void all() {
        blanks();
        signs();
        words();
        decimals();
        hexadecimals();
        suffixes();
        zeros();
        exponents();
        state();
    }

    private void blanks() {
        check.sentence("blanks (bytes 0 .. 32) at both ends don't count");
        for (int b = 0; b <= 32; b++) {
            char c = (char) b;
            reads(c + "7", 7);
            reads("7" + c, 7);
            reads("" + c + c + "7" + c + c + c, 7);
        }
        String all = "";
        for (char c = 0; c <= 32; c++) {
            all = all + c;
        }
        reads(all + "-2.5" + all, -2.5);
        readsBits(all + "NaN" + all, wide ? 0x7ff8000000000000L : 0x7fc00000L);
        reads(all + "0x1p1" + all, 2);
        for (int b = 33; b < 256; b++) {
            char c = (char) b;
            if ("+-.0123456789".indexOf(c) < 0) {
                refuses(c + "7");
            }
            if (".0123456789fFdD".indexOf(c) < 0) {
                refuses("7" + c);
            }
        }
        for (String s : new String[] {"", " ", "\0", all, "- 1", "+ 1", "1 2", "1 .5", "1. 5", "1 e5", "1e 5", "1e+ 5",
            "1 f", "0 x1p0", "0x 1p0", "0x1 p0", "0x1p 0", "Na N", "- Infinity", "1\0002"}) {
            refuses(s);
        }
    }

    private void signs() {
        check.sentence("[ + | - ]");
        reads("3", 3);
        reads("+3", 3);
        reads("-3", -3);
        reads("+.5", .5);
        reads("-.5", -.5);
        reads("+0x3p0", 3);
        reads("-0x3p0", -3);
        for (String s : new String[] {"+", "-", "--3", "++3", "+-3", "-+3", "3-", "3+", "+ ", "-.", "+e1", "-NaN-", "\u00ad3", "\u00b13"}) {
            refuses(s);
        }
    }

    private void words() {
        check.sentence("NaN | Infinity");
        long infinity = wide ? 0x7ffL << 52 : 0xffL << 23;
        long notANumber = infinity | (wide ? 1L << 51 : 1L << 22);
        readsBits("Infinity", infinity);
        readsBits("+Infinity", infinity);
        readsBits("-Infinity", wide ? infinity | Long.MIN_VALUE : (int) (infinity | 1L << 31));
        check.sentence("All NaN are one, answered as exponent all ones, the highest bit of the fraction, no sign");
        readsBits("NaN", notANumber);
        readsBits("+NaN", notANumber);
        readsBits("-NaN", notANumber);
        check.sentence("(DECIMAL, HEX with one of f, F, d, D behind, or none)");
        for (String word : new String[] {"NaN", "Infinity"}) {
            for (int i = 1; i < word.length(); i++) {
                refuses(word.substring(0, i));
                refuses(word.substring(i));
            }
            for (String s : new String[] {"f", "F", "d", "D", "x", "1", ".", "e1", word}) {
                refuses(word + s);
            }
            refuses("0" + word);
            refuses("0x" + word);
        }
        for (String s : new String[] {"nan", "NAN", "Nan", "infinity", "INFINITY", "Inf", "inf", "null"}) {
            refuses(s);
        }
    }

    private void decimals() {
        check.sentence("DECIMAL: digits [ . [digits] ] or . digits, [ (e | E) [ + | - ] digits ]");
        reads("0123456789", 123456789);
        reads("5.", 5);
        reads("5.25", 5.25);
        reads(".25", .25);
        reads("00.50", .5);
        reads("5e1", 50);
        reads("5E1", 50);
        reads("5.e1", 50);
        reads(".5e1", 5);
        reads("5.5e+1", 55);
        reads("5e-1", .5);
        reads("5E+01", 50);
        reads("5e-00", 5);
        for (String s : new String[] {".", "..", "1..2", "1.2.3", ".1.", "e", "e5", ".e5", "E+5", "1e", "1e+", "1e-", "1E",
            "1e+-5", "1e--5", "1e5.", "1e5.0", "1e.5", "1e5e5", "1ee5", "1p5", "1,5", "1_0", "1a", "\u00b9", "1\u00b2", "1e\u00b3"}) {
            refuses(s);
        }
    }

    private void hexadecimals() {
        check.sentence("HEX: 0 (x | X) with hexadecimal digits [ . [digits] ] or . digits, one at least,"
            + " (p | P) [ + | - ] decimal digits: a power of two.");
        reads("0x1p0", 1);
        reads("0X1P0", 1);
        reads("0x1.p0", 1);
        reads("0x.8p0", .5);
        reads("0x1.8p0", 1.5);
        reads("0x123456p0", 0x123456);
        reads("0x789abcp0", 0x789abc);
        reads("0xdefp0", 0xdef);
        reads("0xABCp0", 0xabc);
        reads("0xDEFp0", 0xdef);
        reads("0x1p+3", 8);
        reads("0x1P-3", .125);
        reads("0x1p10", 1024);
        reads("0x1p010", 1024);
        for (String s : new String[] {"0x", "0X", "0x.", "0xp0", "0x.p0", "0x1", "0x1.8", "0x1.", "0x1p", "0x1p+", "0x1p-",
            "0x1e5", "0x1pa", "0x1p1.0", "0x1p.5", "0x1p1p1", "0x1.8.8p0", "0xgp0", "0x1gp0", "0x@p0", "0x/p0", "0x:p0",
            "0x`p0", "0xGp0", "x1p0", "1x1p0", "00x1p0", "0x0x1p0", "0xx1p0", "0x-1p0", "0x+1p0", "1p0", "0p0"}) {
            refuses(s);
        }
    }

    private void suffixes() {
        check.sentence("with one of f, F, d, D behind, or none");
        for (String suffix : new String[] {"f", "F", "d", "D"}) {
            reads("1" + suffix, 1);
            reads("1." + suffix, 1);
            reads(".5" + suffix, .5);
            reads("1e2" + suffix, 100);
            reads("0x1p2" + suffix, 4);
            reads("0x1dp1" + suffix, 58);
            reads(" 1" + suffix + " ", 1);
            for (String second : new String[] {"f", "F", "d", "D", "1", ".", "e1"}) {
                refuses("1" + suffix + second);
            }
            refuses(suffix);
            refuses("." + suffix);
            refuses("1 " + suffix);
            refuses("1e" + suffix);
            refuses("0x1p" + suffix);
            refuses("0x1" + suffix);
            refuses("0x" + suffix);
        }
        refuses("1l");
        refuses("1L");
    }

    private void zeros() {
        check.sentence("a - gives the sign bit, to 0, too");
        String[] nothing = {"0", "0.", ".0", "0.0", "0e5", "0e99999999999", "0e-99999999999", "0x0p0", "0x.0p99999999999",
            "0x0.0p-99999999999", "000000", "0f", "1e-99999", "0x1p-99999", "0." + "0".repeat(2000) + "e1999"};
        for (String s : nothing) {
            reads(s, 0.0);
            reads("+" + s, 0.0);
            reads("-" + s, -0.0);
        }
    }

    private void exponents() {
        check.sentence("It ROUNDS to what it says; any number of digits counts");
        for (String much : new String[] {"2147483647", "2147483648", "4294967295", "4294967296", "4294967297",
            "9223372036854775807", "9223372036854775808", "18446744073709551616", "18446744073709551617",
            "99999999999999999999999999999999", "1000", "310"}) {
            reads("1e" + much, Double.POSITIVE_INFINITY);
            reads("-1e+" + much, Double.NEGATIVE_INFINITY);
            reads("1e-" + much, much.equals("310") && wide ? 1e-310 : 0);
            reads("0x1p" + much + "0", Double.POSITIVE_INFINITY);
            reads("-0x1p+" + much + "0", Double.NEGATIVE_INFINITY);
            reads("0x1p-" + much + "0", 0);
            reads("-0x1p-" + much + "0", -0.0);
        }
        reads("1e" + "0".repeat(3000) + "5", 1e5);
        reads("1e-" + "0".repeat(3000) + "5", wide ? 1e-5 : 1e-5f);
        reads("0x1p" + "0".repeat(3000) + "5", 32);
        reads("0." + "0".repeat(4999) + "15e5000", 1.5);
        reads("15" + "0".repeat(5000) + "e-5001", 1.5);
        reads("0x0." + "0".repeat(4999) + "18p20000", 1.5);
        reads("0x18" + "0".repeat(5000) + "p-20004", 1.5);
        reads("0".repeat(5000) + "1." + "0".repeat(4000), 1);
        reads("0x" + "0".repeat(5000) + "1." + "0".repeat(4000) + "p0", 1);
        reads("1" + "0".repeat(9900) + "e-9900", 1);
        // all that can be fed before the 512th call
        Subject most = new Subject();
        for (int i = 0; i < 511; i++) {
            most.feed(0x31313131, 0x31313131, 0x31313131, 0x31313131, 0x31313131);
        }
        check.answers("10220 digits", (wide ? 0x7ffL << 52 : 0xffL << 23), () -> parsed(most));
    }

    private void state() {
        check.sentence("A call that reads THE TAPE leaves it empty, also if it throws.");
        Map<String, String> now = check.refusesChanging("a text that is none", REFUSED, State::rich, this::parsed,
            Check.TAPE);
        check.due("the tape", now.get(Check.TAPE), "0:");
        now = check.changes("a text that is one", Long.toString(wide ? Double.doubleToRawLongBits(12.5)
            : Float.floatToRawIntBits(12.5f)), () -> {
                Subject y = State.rich();
                y.end(4);
                return y;
            }, this::parsed, Check.TAPE);
        check.due("the tape", now.get(Check.TAPE), "0:");
        Subject twice = new Subject().put("1");
        parsed(twice);
        check.refuses("once more", REFUSED, () -> parsed(twice));
        twice.put("1x");
        check.refuses("a text that is none", REFUSED, () -> parsed(twice));
        twice.append("2");
        check.answers("nothing of it is left", wide ? Double.doubleToRawLongBits(2) : Float.floatToRawIntBits(2f),
            () -> parsed(twice));
    }
}
