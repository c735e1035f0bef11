import java.math.BigDecimal;
import java.util.Random;

/** Long random runs of calls, each answer compared with the model's; every seed is fixed. */
public final class ModelTest {
    private static final String NUMBER_BYTES = "0123456789.eEpPxXfFdD+- NaInity\n\u00a0";
    private static final String FORMAT_BYTES = "%0123456789$<-#+ ,(.doxXeEfgGaAcCsSbB%nqz\u00e9";
    private static final String CONVERSIONS = "doxXeEfgGaAcCsSbB%n";
    /** Told in place of a fault when the run has had all its calls. */
    private static final String OVER = "the run is over";
    /** Words of a long result that are looked at. */
    private static final int WORDS = 20;

    private final Random random;
    private final Model model = new Model();
    private final Subject real = new Subject();
    private final StringBuilder log = new StringBuilder();

    private ModelTest(long seed) {
        // seeds in a row would begin alike
        random = new Random(seed * 0x9e3779b97f4a7c15L);
    }

    public static void main(String[] args) {
        int runs = args.length > 0 ? Integer.parseInt(args[0]) : 600;
        long first = args.length > 1 ? Long.parseLong(args[1]) : 1;
        for (long seed = first; seed < first + runs; seed++) {
            ModelTest test = new ModelTest(seed);
            String fault = test.run();
            if (fault != null) {
                System.out.println("seed " + seed + ": " + fault);
                System.out.println(test.log);
                System.exit(1);
            }
        }
        System.out.println("ModelTest: all answers are the model's");
    }

    private String run() {
        int only = random.nextInt(8);
        String fault = null;
        while (fault == null) {
            int what = only < 4 ? only : random.nextInt(8);
            fault = step(what);
            if (fault == null && random.nextInt(4) == 0) {
                fault = compareCounts();
            }
        }
        return fault == OVER ? null : fault;
    }

    private String step(int what) {
        switch (what) {
            case 0:
                return printSomething();
            case 1:
                return parseSomething();
            case 2:
                return showSomething();
            case 3:
            case 4:
                return formatSomething();
            case 5:
                return odd();
            case 6:
                return random.nextInt(6) == 0 ? call("clear") : addArgument();
            default:
                return call("format", random.nextInt(8));
        }
    }

    // ---- one call on both ----

    private String call(String name, long... a) {
        if (real.calls() == Subject.PROMISED_CALLS) {
            return OVER;
        }
        String due = answer(true, name, a);
        String got = answer(false, name, a);
        if (log.length() < 20000) {
            log.append(name).append(java.util.Arrays.toString(a)).append(" = ").append(got).append('\n');
        }
        if (!due.equals(got)) {
            return name + java.util.Arrays.toString(a) + " answered " + got + ", due is " + due;
        }
        return "print printFloat show format".contains(name) ? compareResults() : null;
    }

    private String answer(boolean ofModel, String name, long[] a) {
        try {
            return Long.toString(ofModel ? askModel(name, a) : askReal(name, a));
        } catch (RuntimeException e) {
            return "throws." + e.getClass().getSimpleName();
        }
    }

    private long askModel(String name, long[] a) {
        switch (name) {
            case "feed": return model.feed((int) a[0], (int) a[1], (int) a[2], (int) a[3], (int) a[4]);
            case "end": return model.end((int) a[0]);
            case "print": return model.print(a[0]);
            case "printFloat": return model.printFloat((int) a[0]);
            case "parse": return model.parse();
            case "parseFloat": return model.parseFloat();
            case "show": return model.show((int) a[0], (int) a[1], a[2]);
            case "argument": return model.argument((int) a[0], a[1]);
            case "text": return model.text();
            case "clear": return model.clear();
            case "compile": return model.compile((int) a[0]);
            case "format": return model.format((int) a[0]);
            case "word": return model.word((int) a[0]);
            default: return model.count((int) a[0]);
        }
    }

    private long askReal(String name, long[] a) {
        switch (name) {
            case "feed": return real.feed((int) a[0], (int) a[1], (int) a[2], (int) a[3], (int) a[4]);
            case "end": return real.end((int) a[0]);
            case "print": return real.print(a[0]);
            case "printFloat": return real.printFloat((int) a[0]);
            case "parse": return real.parse();
            case "parseFloat": return real.parseFloat();
            case "show": return real.show((int) a[0], (int) a[1], a[2]);
            case "argument": return real.argument((int) a[0], a[1]);
            case "text": return real.text();
            case "clear": return real.clear();
            case "compile": return real.compile((int) a[0]);
            case "format": return real.format((int) a[0]);
            case "word": return real.word((int) a[0]);
            default: return real.count((int) a[0]);
        }
    }

    private String compareResults() {
        int length = model.result.length();
        String fault = first(call("count", 1), call("word", length - 1));
        for (int i = 0; i < WORDS && i * 8 < length && fault == null; i++) {
            fault = call("word", length <= WORDS * 8 ? i * 8 : random.nextInt(length));
        }
        return fault;
    }

    private String compareCounts() {
        for (int what = 0; what < 5; what++) {
            String fault = call("count", what);
            if (fault != null) {
                return fault;
            }
        }
        return null;
    }

    private String feedText(String s) {
        for (int i = 0; i < s.length(); i += 20) {
            long[] five = new long[5];
            for (int j = 0; j < 20; j++) {
                int b = i + j < s.length() ? s.charAt(i + j) & 255 : random.nextInt(256);
                five[j / 4] |= (long) b << (24 - j % 4 * 8);
            }
            String fault = call("feed", five);
            if (fault != null) {
                return fault;
            }
        }
        return call("end", s.length());
    }

    private String first(String... faults) {
        for (String fault : faults) {
            if (fault != null) {
                return fault;
            }
        }
        return null;
    }

    // ---- what is called ----

    private String printSomething() {
        return random.nextInt(3) > 0 ? call("print", someDouble()) : call("printFloat", someFloat());
    }

    private String showSomething() {
        int p = random.nextInt(3) > 0 ? random.nextInt(25) : random.nextInt(1203) - 1;
        return call("show", random.nextInt(40) == 0 ? 3 : random.nextInt(3), p, someDouble());
    }

    private String parseSomething() {
        String fault = first(call("end", 0), feedText(someNumber()));
        return first(fault, random.nextBoolean() ? call("parse") : call("parseFloat"));
    }

    private String formatSomething() {
        int f = random.nextInt(8);
        String fault = random.nextBoolean() ? fittingFormat(f) : anyFormat(f);
        return first(fault, call("count", 3), call("format", f), call("count", 3),
            random.nextInt(5) == 0 ? call("clear") : null);
    }

    private String anyFormat(int f) {
        String fault = first(call("end", 0), feedText(someFormat()), call("compile", f));
        int more = random.nextInt(4);
        for (int i = 0; i < more && fault == null; i++) {
            fault = addArgument();
        }
        return fault;
    }

    /** As many arguments as it takes, each of a kind that is taken, so that much gets printed. */
    private String fittingFormat(int f) {
        StringBuilder b = new StringBuilder();
        String fault = call("clear");
        boolean wide = random.nextInt(10) == 0;
        int pieces = 1 + random.nextInt(12);
        for (int i = 0; i < pieces && fault == null; i++) {
            char c = CONVERSIONS.charAt(random.nextInt(CONVERSIONS.length()));
            b.append(digits("ab |,\u00e9\0", 2)).append(wellFormed(c, wide));
            if (c != '%' && c != 'n') {
                int kind = kindFor(c);
                fault = kind == 7 ? addText() : call("argument", kind, valueFor(c, kind));
            }
        }
        return first(fault, call("end", 0), feedText(b.toString()), call("compile", f));
    }

    private int kindFor(char c) {
        String kinds = "doxX".indexOf(c) >= 0 ? "34" : "cC".indexOf(c) >= 0 ? "23"
            : "sSbB".indexOf(c) >= 0 ? "1234567" : "56";
        return random.nextInt(12) == 0 ? 0 : kinds.charAt(random.nextInt(kinds.length())) - '0';
    }

    private long valueFor(char c, int kind) {
        return kind == 2 || "cC".indexOf(c) >= 0 ? 32 + random.nextInt(95) : someValue(kind);
    }

    private String wellFormed(char c, boolean wide) {
        StringBuilder b = new StringBuilder();
        if (c == 'n') {
            return "%n";
        }
        String flags = "-#+ 0,(";
        for (int i = 0; i < flags.length(); i++) {
            if (random.nextInt(3) == 0 && allFlags(c).indexOf(flags.charAt(i)) >= 0) {
                b.insert(random.nextInt(b.length() + 1), flags.charAt(i));
            }
        }
        String chosen = b.toString();
        if (chosen.contains("-")) {
            chosen = chosen.replace("0", "");
        }
        if (chosen.contains("+")) {
            chosen = chosen.replace(" ", "");
        }
        b = new StringBuilder("%").append(chosen);
        if (random.nextInt(3) > 0 || chosen.contains("-") || chosen.contains("0")) {
            b.append(wide ? 4000 + random.nextInt(6000) : 1 + random.nextInt(30));
        }
        if (random.nextInt(2) == 0 && "doxXcC%".indexOf(c) < 0) {
            b.append('.').append(wide && random.nextBoolean() ? random.nextInt(10000) : random.nextInt(22));
        }
        return b.append(c).toString();
    }

    private String addText() {
        int length = random.nextInt(4) > 0 ? random.nextInt(12) : random.nextInt(230);
        StringBuilder b = new StringBuilder();
        for (int i = 0; i < length; i++) {
            b.append((char) (random.nextInt(4) > 0 ? 'a' + random.nextInt(26) : random.nextInt(256)));
        }
        return first(call("end", 0), feedText(b.toString()), call("text"));
    }

    private String addArgument() {
        if (random.nextInt(5) == 0) {
            return addText();
        }
        int kind = random.nextInt(30) == 0 ? random.nextInt(12) - 3 : random.nextInt(7);
        return call("argument", kind, someValue(kind));
    }

    private long someValue(int kind) {
        switch (kind) {
            case 1:
                return random.nextInt(3);
            case 2:
                return random.nextInt(10) == 0 ? random.nextLong() : 30 + random.nextInt(99);
            case 5:
                return someFloat();
            case 6:
                return someDouble();
            default:
                return someWhole();
        }
    }

    private long someWhole() {
        long v = random.nextLong() >> random.nextInt(64);
        switch (random.nextInt(8)) {
            case 0:
                return 32 + random.nextInt(95);
            case 1:
                return new long[] {0, -1, Long.MIN_VALUE, Long.MAX_VALUE, Integer.MIN_VALUE, 999, 1000, -1000}
                    [random.nextInt(8)];
            default:
                return v;
        }
    }

    private String odd() {
        switch (random.nextInt(9)) {
            case 0:
                return call("count", random.nextInt(9) - 2);
            case 1:
                return call("word", random.nextInt(40) - 5);
            case 2:
                return call("compile", random.nextInt(12) - 2);
            case 3:
                return call("format", random.nextInt(12) - 2);
            case 4:
                return call("end", random.nextInt(30) - 3);
            case 5:
                return call("show", random.nextInt(6) - 1, random.nextInt(8) - 2, someDouble());
            case 6:
                return call("feed", random.nextInt(), random.nextInt(), random.nextInt(), random.nextInt(), 0);
            case 7:
                return first(call("feed", random.nextInt(), 0, 0, 0, 0), call("text"));
            default:
                return random.nextBoolean() ? call("parse") : call("parseFloat");
        }
    }

    // ---- numbers ----

    private long someDouble() {
        long sign = random.nextInt(4) == 0 ? Long.MIN_VALUE : 0;
        switch (random.nextInt(9)) {
            case 0:
                return random.nextLong();
            case 1:
                return sign | Double.doubleToRawLongBits(Double.parseDouble(shortDecimal(310)));
            case 2:
                return sign | Double.doubleToRawLongBits(Double.parseDouble(shortDecimal(9)));
            case 3:
                return sign | ((long) random.nextInt(2047) << 52) + random.nextInt(3) - 1 & Long.MAX_VALUE;
            case 4:
                return sign | random.nextLong() >>> 12 + random.nextInt(52);
            case 5:
                return sign | Double.doubleToRawLongBits(random.nextInt(100000) / 8.0);
            case 6:
                return sign | Double.doubleToRawLongBits(Math.pow(10, random.nextInt(40) - 12))
                    + random.nextInt(5) - 2;
            case 7:
                return sign | new long[] {0, 1, 0x7ffL << 52, (0x7ffL << 52) - 1, (0x7ffL << 52) + 1, 1L << 52,
                    (1L << 52) - 1}[random.nextInt(7)];
            default:
                return sign | Double.doubleToRawLongBits(random.nextLong() >>> random.nextInt(63));
        }
    }

    private long someFloat() {
        long sign = random.nextInt(4) == 0 ? Integer.MIN_VALUE : 0;
        switch (random.nextInt(6)) {
            case 0:
                return random.nextInt();
            case 1:
                return sign | Float.floatToRawIntBits(Float.parseFloat(shortDecimal(40)));
            case 2:
                return sign | (random.nextInt(255) << 23) + random.nextInt(3) - 1 & Integer.MAX_VALUE;
            case 3:
                return sign | random.nextInt() >>> 9 + random.nextInt(23);
            case 4:
                return sign | Float.floatToRawIntBits(random.nextInt(100000) / 8f);
            default:
                return sign | new int[] {0, 1, 0xff << 23, (0xff << 23) - 1, (0xff << 23) + 1, 1 << 23}
                    [random.nextInt(6)];
        }
    }

    private String shortDecimal(int range) {
        return (random.nextInt(3) == 0 ? random.nextInt(1000) : random.nextInt(10000000)) + "e"
            + (random.nextInt(2 * range) - range);
    }

    private String digits(String from, int most) {
        StringBuilder b = new StringBuilder();
        int length = random.nextInt(most + 1);
        for (int i = 0; i < length; i++) {
            b.append(from.charAt(random.nextInt(from.length())));
        }
        return b.toString();
    }

    private String someNumber() {
        StringBuilder b = new StringBuilder(digits(" \n\0\t", random.nextInt(3) == 0 ? 3 : 0));
        b.append(new String[] {"", "", "-", "+"}[random.nextInt(4)]);
        b.append(someMagnitude());
        b.append(new String[] {"", "", "", "f", "F", "d", "D"}[random.nextInt(7)]);
        b.append(digits(" \n\0\t", random.nextInt(3) == 0 ? 3 : 0));
        if (random.nextInt(6) == 0 && b.length() > 0) {
            int at = random.nextInt(b.length());
            char c = NUMBER_BYTES.charAt(random.nextInt(NUMBER_BYTES.length()));
            switch (random.nextInt(3)) {
                case 0: b.deleteCharAt(at); break;
                case 1: b.insert(at, c); break;
                default: b.setCharAt(at, c); break;
            }
        }
        return b.toString();
    }

    private String someMagnitude() {
        switch (random.nextInt(9)) {
            case 0:
                return random.nextBoolean() ? "NaN" : "Infinity";
            case 1:
            case 2:
                return nearBorder();
            case 3:
            case 4:
                return someHexadecimal();
            case 5:
                return digits("0", 400) + digits("0123456789", 30) + "." + digits("0", 400)
                    + digits("0123456789", 900) + exponent("e", 800);
            case 6:
                return digits("0123456789", 20) + exponent("E", 350);
            case 7:
                return shortDecimal(330);
            default:
                return digits("0123456789", 9) + (random.nextBoolean() ? "." : "") + digits("0123456789", 9)
                    + (random.nextBoolean() ? exponent("e", 50) : "");
        }
    }

    private String exponent(String letter, int range) {
        String s = letter + new String[] {"", "+", "-", "-0", "00"}[random.nextInt(5)];
        return random.nextInt(12) == 0 ? s + digits("0123456789", 25) : s + random.nextInt(range);
    }

    private String someHexadecimal() {
        String digits = digits("0", random.nextInt(4) == 0 ? 300 : 1)
            + digits("0123456789abcdefABCDEF", random.nextInt(3) == 0 ? 40 : 8);
        String behind = digits("0f", random.nextInt(3) == 0 ? 30 : 3) + digits("0123456789abcdefABCDEF", 6);
        String power = exponent("p", random.nextInt(2) == 0 ? 1100 : 160);
        if (random.nextInt(3) == 0) {
            // just at a border of doubles or floats
            digits = "1";
            behind = digits("0f", 0) + (random.nextBoolean() ? "f".repeat(13) + "8" : "00000" + "1")
                + (random.nextBoolean() ? "0".repeat(random.nextInt(40)) + random.nextInt(2) : "");
        }
        return (random.nextBoolean() ? "0x" : "0X") + digits + (random.nextBoolean() ? "." + behind : "") + power;
    }

    /** The exact border between two numbers of a kind, or just above or below it. */
    private String nearBorder() {
        boolean wide = random.nextBoolean();
        long bits = wide ? someDouble() & Long.MAX_VALUE : someFloat() & Integer.MAX_VALUE;
        long infinity = wide ? 0x7ffL << 52 : 0xffL << 23;
        BigDecimal border = Model.border(Math.min(bits, infinity - 1), wide);
        String s = random.nextBoolean() && border.scale() < 400 ? border.toPlainString() : border.toString();
        switch (random.nextInt(4)) {
            case 0:
                return s;
            case 1:
                return above(s, random.nextInt(900));
            case 2:
                return border.subtract(border.ulp().scaleByPowerOfTen(-random.nextInt(60))).toString();
            default:
                return border.round(new java.math.MathContext(1 + random.nextInt(30))).toString();
        }
    }

    private static String above(String s, int zeros) {
        int e = s.indexOf('E');
        String digits = e < 0 ? s : s.substring(0, e);
        String point = digits.indexOf('.') < 0 ? "." : "";
        return digits + point + "0".repeat(zeros) + "1" + (e < 0 ? "" : s.substring(e));
    }

    // ---- formats ----

    private String someFormat() {
        StringBuilder b = new StringBuilder();
        int pieces = random.nextInt(random.nextInt(20) == 0 ? 200 : 6);
        for (int i = 0; i < pieces; i++) {
            b.append(digits("ab |,\u00e9\0", 3));
            b.append(someDirective());
        }
        if (random.nextInt(4) == 0) {
            b.insert(random.nextInt(b.length() + 1), "%" + digits(FORMAT_BYTES, 8));
        }
        if (random.nextInt(60) == 0) {
            b.append("x".repeat(random.nextInt(1200)));
        }
        return b.toString();
    }

    private String someDirective() {
        StringBuilder b = new StringBuilder("%");
        int index = random.nextInt(10);
        b.append(index == 0 ? "<" : index == 1 ? 1 + random.nextInt(17) + "$" : "");
        char c = CONVERSIONS.charAt(random.nextInt(CONVERSIONS.length()));
        String flags = random.nextInt(20) == 0 ? "-#+ 0,(" : usualFlags(c);
        for (int i = 0; i < flags.length(); i++) {
            if (random.nextInt(4) == 0) {
                b.append(flags.charAt(i));
            }
        }
        if (random.nextInt(3) > 0 || b.indexOf("-") > 0 || b.indexOf("0") > 0) {
            b.append(random.nextInt(40) == 0 ? "" + random.nextInt(10100) : "" + (1 + random.nextInt(24)));
        }
        if (random.nextInt(2) == 0 && ("doxXcC%n".indexOf(c) < 0 || random.nextInt(20) == 0)) {
            b.append('.').append(digits("0", 1));
            b.append(random.nextInt(30) == 0 ? random.nextInt(10100) : random.nextInt(22));
        }
        return b.append(c).toString();
    }

    private static String allFlags(char c) {
        return c == 'd' ? "-+ 0,(" : "oxX".indexOf(c) >= 0 ? "-#0" : "eE".indexOf(c) >= 0 ? "-#+ 0("
            : c == 'f' ? "-#+ 0,(" : "gG".indexOf(c) >= 0 ? "-+ 0,(" : "aA".indexOf(c) >= 0 ? "-#+ 0"
            : c == 'n' ? "" : "-";
    }

    private String usualFlags(char c) {
        String all = allFlags(c);
        return random.nextBoolean() ? all.replace("-", "").replace(" ", "") : all.replace("0", "").replace("+", "");
    }
}
