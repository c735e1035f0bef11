import java.math.BigDecimal;
import java.math.BigInteger;
import java.math.MathContext;
import java.math.RoundingMode;
import java.nio.charset.StandardCharsets;
import java.util.ArrayList;
import java.util.List;
import java.util.Locale;
import java.util.NoSuchElementException;
import java.util.regex.Matcher;
import java.util.regex.Pattern;

/** The document once more, written with the Java library and without care for speed: the tests compare with it. */
final class Model {
    private static final Pattern DECIMAL =
        Pattern.compile("([0-9]+\\.?[0-9]*|\\.[0-9]+)(?:[eE]([+-]?[0-9]+))?[fFdD]?");
    private static final Pattern HEX = Pattern.compile(
        "0[xX]([0-9a-fA-F]+\\.?[0-9a-fA-F]*|\\.[0-9a-fA-F]+)[pP]([+-]?[0-9]+)[fFdD]?");
    private static final Pattern DIRECTIVE = Pattern.compile("%(?:([1-9][0-9]*)\\$|(<))?([-#+ 0,(]*)"
        + "([1-9][0-9]*)?(?:\\.([0-9]+))?([doxXeEfgGaAcCsSbB%n])", Pattern.DOTALL);

    private static final class Directive {
        int place;
        int end;
        Integer index;
        boolean same;
        String flags;
        Integer width;
        Integer precision;
        char conversion;

        boolean has(char flag) {
            return flags.indexOf(flag) >= 0;
        }
    }

    private static final class Argument {
        int kind;
        long v;
        String text;
    }

    String tape = "";
    String result = "";
    private final List<Argument> arguments = new ArrayList<>();
    private final String[] formats = new String[8];
    private int place = -1;

    int feed(int... five) {
        if (tape.length() + 20 > 65536) {
            throw new IndexOutOfBoundsException();
        }
        StringBuilder b = new StringBuilder(tape);
        for (int i : five) {
            for (int s = 24; s >= 0; s -= 8) {
                b.append((char) (i >>> s & 255));
            }
        }
        tape = b.toString();
        return tape.length();
    }

    int end(int n) {
        if (n < 0 || n > tape.length()) {
            throw new IllegalArgumentException();
        }
        tape = tape.substring(0, n);
        return n;
    }

    int print(long bits) {
        result = printed(bits, true);
        return result.length();
    }

    int printFloat(int bits) {
        result = printed(bits & 0xffffffffL, false);
        return result.length();
    }

    long parse() {
        return parsed(true);
    }

    int parseFloat() {
        return (int) parsed(false);
    }

    int show(int kind, int p, long bits) {
        if (kind < 0 || kind > 2 || p < 0 || p > 1200) {
            throw new IllegalArgumentException();
        }
        Directive d = new Directive();
        d.flags = "";
        d.precision = p;
        d.conversion = "efg".charAt(kind);
        result = floating(d, bits);
        return result.length();
    }

    int argument(int kind, long v) {
        if (kind < 0 || kind > 6) {
            throw new IllegalArgumentException();
        }
        if (arguments.size() == 16) {
            throw new IndexOutOfBoundsException();
        }
        if (kind == 2 && (v < 32 || v > 126)) {
            throw new UnsupportedOperationException();
        }
        Argument a = new Argument();
        a.kind = kind;
        a.v = kind == 1 ? (v == 1 ? 1 : 0) : kind == 3 || kind == 5 ? (int) v : v;
        arguments.add(a);
        return arguments.size();
    }

    /** One more argument of the kind that the value's class says; null is none. */
    void add(Object v) {
        if (v instanceof String) {
            tape = (String) v;
            text();
        } else if (v instanceof Float) {
            argument(5, Float.floatToRawIntBits((Float) v));
        } else if (v instanceof Double) {
            argument(6, Double.doubleToRawLongBits((Double) v));
        } else if (v instanceof Long) {
            argument(4, (Long) v);
        } else if (v instanceof Integer) {
            argument(3, (Integer) v);
        } else if (v instanceof Character) {
            argument(2, (Character) v);
        } else {
            argument(v == null ? 0 : 1, Boolean.TRUE.equals(v) ? 1 : 0);
        }
    }

    int text() {
        String t = tape;
        tape = "";
        if (arguments.size() == 16 || t.length() > 200) {
            throw new IndexOutOfBoundsException();
        }
        Argument a = new Argument();
        a.kind = 7;
        a.text = t;
        arguments.add(a);
        return arguments.size();
    }

    int clear() {
        int n = arguments.size();
        arguments.clear();
        return n;
    }

    int compile(int f) {
        if (f < 0 || f > 7) {
            throw new IllegalArgumentException();
        }
        String t = tape;
        tape = "";
        place = -1;
        if (t.length() > 1000) {
            throw new IndexOutOfBoundsException();
        }
        List<Directive> all = new ArrayList<>();
        int wrong = directives(t, all);
        if (wrong >= 0) {
            place = wrong;
            throw new UnsupportedOperationException();
        }
        for (Directive d : all) {
            if (barred(d)) {
                place = d.place;
                throw new IllegalStateException();
            }
        }
        formats[f] = t;
        return all.size();
    }

    int format(int f) {
        if (f < 0 || f > 7) {
            throw new IllegalArgumentException();
        }
        if (formats[f] == null) {
            throw new IllegalStateException();
        }
        place = -1;
        result = "";
        List<Directive> all = new ArrayList<>();
        directives(formats[f], all);
        StringBuilder out = new StringBuilder();
        int from = 0;
        int next = 0;
        int last = -1;
        for (Directive d : all) {
            out.append(formats[f], from, d.place);
            checkLength(out);
            from = d.end;
            String piece;
            if (d.conversion == 'n') {
                piece = "\n";
            } else if (d.conversion == '%') {
                piece = pad("%", d);
            } else {
                int n = d.index != null ? d.index - 1 : d.same ? last : next++;
                last = n;
                if (n < 0 || n >= arguments.size()) {
                    place = d.place;
                    throw new NoSuchElementException();
                }
                if (!fits(d, arguments.get(n))) {
                    place = d.place;
                    throw new UnsupportedOperationException();
                }
                piece = piece(d, arguments.get(n));
            }
            out.append(piece);
            checkLength(out);
        }
        out.append(formats[f], from, formats[f].length());
        checkLength(out);
        result = out.toString();
        return result.length();
    }

    long word(int i) {
        if (i < 0 || i >= result.length()) {
            throw new IndexOutOfBoundsException();
        }
        byte[] bytes = (result.substring(i) + "\0\0\0\0\0\0\0\0").getBytes(StandardCharsets.ISO_8859_1);
        return java.nio.ByteBuffer.wrap(bytes).getLong();
    }

    int count(int what) {
        int formatCount = 0;
        for (String f : formats) {
            formatCount += f == null ? 0 : 1;
        }
        int[] all = {tape.length(), result.length(), arguments.size(), place, formatCount};
        if (what < 0 || what >= all.length) {
            throw new IllegalArgumentException();
        }
        return all[what];
    }

    private static void checkLength(StringBuilder out) {
        if (out.length() > 32768) {
            throw new IndexOutOfBoundsException();
        }
    }

    // ---- binary floating point ----

    private static long infinity(boolean wide) {
        return wide ? 0x7ffL << 52 : 0xffL << 23;
    }

    private static long nan(boolean wide) {
        return infinity(wide) | (wide ? 1L << 51 : 1L << 22);
    }

    private static long sign(boolean wide) {
        return wide ? 1L << 63 : 1L << 31;
    }

    /** The value of finite positive bits; infinity as the power of two that comes behind the greatest one. */
    static BigDecimal value(long bits, boolean wide) {
        if (bits == infinity(wide)) {
            return new BigDecimal(BigInteger.TWO.pow(wide ? 1024 : 128));
        }
        return new BigDecimal(wide ? Double.longBitsToDouble(bits) : Float.intBitsToFloat((int) bits));
    }

    /** The border between positive bits and the next ones. */
    static BigDecimal border(long bits, boolean wide) {
        return value(bits, wide).add(value(bits + 1, wide)).divide(BigDecimal.valueOf(2));
    }

    static long round(BigDecimal v, boolean wide) {
        long low = 0;
        long high = infinity(wide);
        while (high - low > 1) {
            long middle = low + (high - low) / 2;
            if (value(middle, wide).compareTo(v) <= 0) {
                low = middle;
            } else {
                high = middle;
            }
        }
        if (v.compareTo(value(high, wide)) >= 0) {
            return high;
        }
        int order = v.compareTo(border(low, wide));
        return order < 0 || order == 0 && (low & 1) == 0 ? low : high;
    }

    private static boolean roundsTo(BigDecimal v, long bits, boolean wide) {
        int above = v.compareTo(border(bits, wide));
        int below = bits == 0 ? 1 : v.compareTo(border(bits - 1, wide));
        boolean even = (bits & 1) == 0;
        return (above < 0 || above == 0 && even) && (below > 0 || below == 0 && even);
    }

    /** The shortest decimal of finite positive bits. */
    static BigDecimal shortest(long bits, boolean wide) {
        BigDecimal x = value(bits, wide);
        for (int n = 1;; n++) {
            BigDecimal low = x.round(new MathContext(n, RoundingMode.FLOOR));
            BigDecimal high = x.round(new MathContext(n, RoundingMode.CEILING));
            if (!roundsTo(low, bits, wide) && !roundsTo(high, bits, wide)) {
                continue;
            }
            return n == 1 ? nearest(x, 2, bits, wide) : nearest(x, n, bits, wide);
        }
    }

    private static BigDecimal nearest(BigDecimal x, int n, long bits, boolean wide) {
        BigDecimal low = x.round(new MathContext(n, RoundingMode.FLOOR));
        BigDecimal high = x.round(new MathContext(n, RoundingMode.CEILING));
        boolean lowIn = roundsTo(low, bits, wide);
        boolean highIn = roundsTo(high, bits, wide);
        if (lowIn && highIn) {
            int order = x.subtract(low).compareTo(high.subtract(x));
            if (order == 0) {
                return low.compareTo(high) == 0 || evenOf(low, n) ? low : high;
            }
            return order < 0 ? low : high;
        }
        return lowIn ? low : high;
    }

    /** The last of n digits is even. */
    private static boolean evenOf(BigDecimal d, int n) {
        BigDecimal full = d.setScale(d.scale() + n - d.precision());
        return !full.unscaledValue().testBit(0);
    }

    static String printed(long bits, boolean wide) {
        long size = bits & (sign(wide) - 1);
        if (size > infinity(wide)) {
            return "NaN";
        }
        String minus = (bits & sign(wide)) != 0 ? "-" : "";
        if (size == infinity(wide)) {
            return minus + "Infinity";
        }
        if (size == 0) {
            return minus + "0.0";
        }
        BigDecimal s = shortest(size, wide).stripTrailingZeros();
        int p = s.precision() - s.scale();
        if (p >= -2 && p <= 7) {
            return minus + (s.scale() < 1 ? s.setScale(1) : s).toPlainString();
        }
        String digits = s.unscaledValue().toString();
        String behind = digits.length() == 1 ? "0" : digits.substring(1);
        return minus + digits.charAt(0) + "." + behind + "E" + (p - 1);
    }

    private long parsed(boolean wide) {
        String t = tape;
        tape = "";
        int from = 0;
        int to = t.length();
        while (from < to && t.charAt(from) <= 32) {
            from++;
        }
        while (to > from && t.charAt(to - 1) <= 32) {
            to--;
        }
        t = t.substring(from, to);
        boolean negative = t.startsWith("-");
        if (negative || t.startsWith("+")) {
            t = t.substring(1);
        }
        if (t.equals("NaN")) {
            return nan(wide);
        }
        return magnitude(t, wide) | (negative ? sign(wide) : 0);
    }

    private static long magnitude(String t, boolean wide) {
        if (t.equals("Infinity")) {
            return infinity(wide);
        }
        Matcher d = DECIMAL.matcher(t);
        if (d.matches()) {
            return decimal(d.group(1), d.group(2), wide);
        }
        Matcher h = HEX.matcher(t);
        if (h.matches()) {
            return hexadecimal(h.group(1), h.group(2), wide);
        }
        throw new UnsupportedOperationException();
    }

    private static int behindPoint(String digits) {
        int point = digits.indexOf('.');
        return point < 0 ? 0 : digits.length() - point - 1;
    }

    private static long decimal(String digits, String exponent, boolean wide) {
        BigInteger all = new BigInteger(digits.replace(".", ""));
        if (all.signum() == 0) {
            return 0;
        }
        BigInteger e = exponent == null ? BigInteger.ZERO : new BigInteger(exponent);
        if (e.abs().compareTo(BigInteger.valueOf(1000000)) > 0) {
            return e.signum() > 0 ? infinity(wide) : 0;
        }
        return round(new BigDecimal(all, behindPoint(digits)).scaleByPowerOfTen(e.intValue()), wide);
    }

    private static long hexadecimal(String digits, String exponent, boolean wide) {
        BigInteger all = new BigInteger(digits.replace(".", ""), 16);
        if (all.signum() == 0) {
            return 0;
        }
        BigInteger top = new BigInteger(exponent).add(BigInteger.valueOf(all.bitLength() - 4L * behindPoint(digits)));
        if (top.abs().compareTo(BigInteger.valueOf(1200)) > 0) {
            return top.signum() > 0 ? infinity(wide) : 0;
        }
        int power = top.intValue() - all.bitLength();
        BigDecimal v = new BigDecimal(all);
        BigDecimal two = new BigDecimal(BigInteger.TWO.pow(Math.abs(power)));
        return round(power < 0 ? v.divide(two) : v.multiply(two), wide);
    }

    // ---- formats ----

    /** Answers the place of a % that is none, or -1. */
    private static int directives(String t, List<Directive> all) {
        Matcher m = DIRECTIVE.matcher(t);
        int at = 0;
        while (true) {
            int percent = t.indexOf('%', at);
            if (percent < 0) {
                return -1;
            }
            m.region(percent, t.length());
            if (!m.lookingAt()) {
                return percent;
            }
            Directive d = new Directive();
            d.place = percent;
            d.end = m.end();
            d.same = m.group(2) != null;
            d.flags = m.group(3);
            d.conversion = m.group(6).charAt(0);
            for (int g : new int[] {1, 4, 5}) {
                if (m.group(g) != null && new BigInteger(m.group(g)).compareTo(BigInteger.valueOf(9999)) > 0) {
                    return percent;
                }
            }
            d.index = number(m.group(1));
            d.width = number(m.group(4));
            d.precision = number(m.group(5));
            all.add(d);
            at = m.end();
        }
    }

    private static Integer number(String s) {
        return s == null ? null : Integer.valueOf(new BigInteger(s).intValue());
    }

    private static boolean barred(Directive d) {
        for (int i = 0; i < d.flags.length(); i++) {
            if (d.flags.indexOf(d.flags.charAt(i), i + 1) >= 0) {
                return true;
            }
        }
        char c = d.conversion;
        boolean indexed = d.index != null || d.same;
        if (d.has('-') && d.has('0') || d.has('+') && d.has(' ')) {
            return true;
        }
        if (d.width == null && (d.has('-') || d.has('0'))) {
            return true;
        }
        if (d.precision != null && "doxXcC%".indexOf(c) >= 0) {
            return true;
        }
        if (c == 'n' && (d.width != null || d.precision != null || !d.flags.isEmpty() || indexed)) {
            return true;
        }
        if (c == '%' && indexed) {
            return true;
        }
        String allowed = c == 'd' ? "-+ 0,(" : "oxX".indexOf(c) >= 0 ? "-#0" : "eE".indexOf(c) >= 0 ? "-#+ 0("
            : c == 'f' ? "-#+ 0,(" : "gG".indexOf(c) >= 0 ? "-+ 0,(" : "aA".indexOf(c) >= 0 ? "-#+ 0" : "-";
        for (char flag : d.flags.toCharArray()) {
            if (allowed.indexOf(flag) < 0) {
                return true;
            }
        }
        return false;
    }

    private static boolean fits(Directive d, Argument a) {
        switch (Character.toLowerCase(d.conversion)) {
            case 's':
            case 'b':
                return true;
            case 'c':
                return a.kind == 0 || a.kind == 2 || a.kind == 3 && a.v >= 32 && a.v <= 126;
            case 'd':
            case 'o':
            case 'x':
                return a.kind == 0 || a.kind == 3 || a.kind == 4;
            default:
                return a.kind == 0 || a.kind == 5 || a.kind == 6;
        }
    }

    private static String piece(Directive d, Argument a) {
        char c = Character.toLowerCase(d.conversion);
        String s;
        if (a.kind == 0) {
            s = pad(cut(c == 'b' ? "false" : "null", d), d);
        } else if (c == 's') {
            s = pad(cut(plain(a), d), d);
        } else if (c == 'b') {
            s = pad(cut(a.kind == 1 && a.v == 0 ? "false" : "true", d), d);
        } else if (c == 'c') {
            s = pad(String.valueOf((char) a.v), d);
        } else if (c == 'd') {
            s = signed(d, a.v < 0, "", group(d, BigInteger.valueOf(a.v).abs().toString()));
        } else if (c == 'o' || c == 'x') {
            BigInteger n = BigInteger.valueOf(a.v);
            if (n.signum() < 0) {
                n = n.add(BigInteger.TWO.pow(a.kind == 3 ? 32 : 64));
            }
            s = zeros(d, d.has('#') ? (c == 'x' ? "0x" : "0") : "", n.toString(c == 'x' ? 16 : 8), "");
        } else {
            long bits = a.v;
            if (a.kind == 5) {
                bits = Double.doubleToRawLongBits(Float.intBitsToFloat((int) a.v));
            }
            s = floating(d, bits);
        }
        return Character.isUpperCase(d.conversion) ? upper(s) : s;
    }

    private static String upper(String s) {
        StringBuilder b = new StringBuilder();
        for (char c : s.toCharArray()) {
            b.append(c >= 'a' && c <= 'z' ? (char) (c - 32) : c);
        }
        return b.toString();
    }

    private static String plain(Argument a) {
        switch (a.kind) {
            case 1:
                return a.v == 1 ? "true" : "false";
            case 2:
                return String.valueOf((char) a.v);
            case 3:
            case 4:
                return Long.toString(a.v);
            case 5:
                return printed(a.v & 0xffffffffL, false);
            case 6:
                return printed(a.v, true);
            default:
                return a.text;
        }
    }

    private static String cut(String s, Directive d) {
        return d.precision == null || d.precision >= s.length() ? s : s.substring(0, d.precision);
    }

    private static String pad(String s, Directive d) {
        int missing = d.width == null ? 0 : Math.max(0, d.width - s.length());
        return d.has('-') ? s + " ".repeat(missing) : " ".repeat(missing) + s;
    }

    private static String group(Directive d, String whole) {
        return d.has(',') ? whole.replaceAll("(?<=[0-9])(?=([0-9]{3})+$)", ",") : whole;
    }

    private static String zeros(Directive d, String before, String s, String behind) {
        int length = before.length() + s.length() + behind.length();
        String filled = d.has('0') ? "0".repeat(Math.max(0, d.width - length)) : "";
        return pad(before + filled + s + behind, d);
    }

    private static String signs(Directive d, boolean negative) {
        return negative ? (d.has('(') ? "(" : "-") : d.has('+') ? "+" : d.has(' ') ? " " : "";
    }

    private static String signed(Directive d, boolean negative, String before, String s) {
        return zeros(d, signs(d, negative) + before, s, negative && d.has('(') ? ")" : "");
    }

    private static String floating(Directive d, long bits) {
        double x = Double.longBitsToDouble(bits);
        if (Double.isNaN(x)) {
            return pad("NaN", d);
        }
        boolean negative = bits < 0;
        if (Double.isInfinite(x)) {
            return pad(signs(d, negative) + "Infinity" + (negative && d.has('(') ? ")" : ""), d);
        }
        char c = Character.toLowerCase(d.conversion);
        if (c == 'a') {
            return signed(d, negative, "0x", hexadecimal(d, Math.abs(x)).substring(2));
        }
        BigDecimal v = new BigDecimal(Math.abs(x));
        int p = d.precision == null ? 6 : d.precision;
        String s = c == 'e' ? scientific(v, p, d) : c == 'f' ? fixed(v, p, d) : general(v, Math.max(p, 1), d);
        return signed(d, negative, "", s);
    }

    private static String fixed(BigDecimal v, int p, Directive d) {
        String s = v.setScale(p, RoundingMode.HALF_UP).toPlainString();
        int point = s.indexOf('.');
        if (point < 0) {
            return group(d, s) + (d.has('#') ? "." : "");
        }
        return group(d, s.substring(0, point)) + s.substring(point);
    }

    private static String scientific(BigDecimal v, int p, Directive d) {
        BigDecimal r = v.round(new MathContext(p + 1, RoundingMode.HALF_UP));
        int power = r.signum() == 0 ? 0 : r.precision() - r.scale() - 1;
        String digits = r.signum() == 0 ? "0" : r.unscaledValue().toString();
        digits = digits + "0".repeat(Math.max(0, p + 1 - digits.length()));
        String point = p > 0 || d.has('#') ? "." : "";
        return digits.charAt(0) + point + digits.substring(1, p + 1)
            + String.format(Locale.ROOT, "e%s%02d", power < 0 ? "-" : "+", Math.abs(power));
    }

    private static String general(BigDecimal v, int p, Directive d) {
        BigDecimal r = v.round(new MathContext(p, RoundingMode.HALF_UP));
        if (r.signum() == 0) {
            return fixed(v, p - 1, d);
        }
        if (r.compareTo(new BigDecimal("0.0001")) < 0 || r.compareTo(BigDecimal.TEN.pow(p)) >= 0) {
            return scientific(v, p - 1, d);
        }
        // the places that leave p digits from the first one that is not 0
        return fixed(v, p - (r.precision() - r.scale()), d);
    }

    private static String hexadecimal(Directive d, double x) {
        if (d.precision == null || d.precision >= 13) {
            return Double.toHexString(x);
        }
        int p = Math.max(d.precision, 1);
        if (x == 0) {
            return "0x0." + "0".repeat(p) + "p0";
        }
        BigDecimal v = new BigDecimal(x);
        int power = Math.getExponent(x);
        if (power < Double.MIN_EXPONENT) {
            power = 63 - Long.numberOfLeadingZeros(Double.doubleToRawLongBits(x)) - 1074;
        }
        BigDecimal two = new BigDecimal(BigInteger.TWO.pow(Math.abs(4 * p - power)));
        BigDecimal scaled = 4 * p - power < 0 ? v.divide(two) : v.multiply(two);
        BigInteger whole = scaled.setScale(0, RoundingMode.HALF_EVEN).unscaledValue();
        if (whole.bitLength() > 4 * p + 1) {
            whole = whole.shiftRight(1);
            power++;
        }
        String digits = whole.toString(16);
        return "0x" + digits.charAt(0) + "." + digits.substring(1) + "p" + power;
    }
}
