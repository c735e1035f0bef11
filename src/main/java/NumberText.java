import java.util.NoSuchElementException;

/**
 * Numbers as texts: printed shortest, read and rounded right, and printed by compiled formats.
 * All rows are made with the object and used again, so that no call makes anything but what it throws.
 */
public final class NumberText {
    private static final int TAPE_BYTES = 65536;
    private static final int RESULT_BYTES = 32768;
    private static final int FED_BYTES = 20;
    private static final int FORMATS = 8;
    private static final int FORMAT_BYTES = 1000;
    private static final int ARGUMENTS = 16;
    private static final int TEXT_BYTES = 200;
    private static final int MOST_SHOWN = 1200;
    private static final String SHOWN = "efg";
    /** Stands for a place, width, precision, byte or argument that is not there. */
    private static final int NONE = -1;

    private static final int KIND_NONE = 0;
    private static final int KIND_TRUTH = 1;
    private static final int KIND_CHARACTER = 2;
    private static final int KIND_INT = 3;
    private static final int KIND_LONG = 4;
    private static final int KIND_FLOAT = 5;
    private static final int KIND_DOUBLE = 6;
    private static final int KIND_TEXT = 7;

    private static final int PRINTED = 0;
    private static final int MISSING = 1;
    private static final int UNFIT = 2;
    private static final int OVERFULL = 3;

    private final Bytes tape = new Bytes(TAPE_BYTES);
    private final Bytes result = new Bytes(RESULT_BYTES);
    private final Arguments arguments = new Arguments();
    private final Reader reader = new Reader(tape);
    private final Binary binary = new Binary();
    private final Shortest shortest = new Shortest();
    private final Printer printer;
    private final Format[] formats = new Format[FORMATS];
    /** A format is read into this one first, so that a faulty one leaves the old one whole. */
    private Format spare = new Format();
    private int formatCount = 0;
    private int place = NONE;

    public NumberText() {
        printer = new Printer(result, arguments, shortest);
        for (int i = 0; i < FORMATS; i++) {
            formats[i] = new Format();
        }
    }

    public int feed(int a, int b, int c, int d, int e) throws IndexOutOfBoundsException {
        if (tape.length > TAPE_BYTES - FED_BYTES) {
            throw new IndexOutOfBoundsException("the tape is full");
        }
        tape.addInt(a);
        tape.addInt(b);
        tape.addInt(c);
        tape.addInt(d);
        tape.addInt(e);
        return tape.length;
    }

    public int end(int n) throws IllegalArgumentException {
        if (n < 0 || n > tape.length) {
            throw new IllegalArgumentException("the tape has not so many bytes");
        }
        tape.keep(n);
        return n;
    }

    public int print(long bits) {
        binary.take(Size.DOUBLE, bits);
        result.keep(0);
        shortest.write(binary, result);
        return result.length;
    }

    public int printFloat(int bits) {
        binary.take(Size.FLOAT, bits);
        result.keep(0);
        shortest.write(binary, result);
        return result.length;
    }

    public long parse() throws UnsupportedOperationException {
        boolean good = reader.read();
        tape.keep(0);
        if (!good) {
            throw new UnsupportedOperationException("no number text");
        }
        return reader.rounded(Size.DOUBLE);
    }

    public int parseFloat() throws UnsupportedOperationException {
        boolean good = reader.read();
        tape.keep(0);
        if (!good) {
            throw new UnsupportedOperationException("no number text");
        }
        return (int) reader.rounded(Size.FLOAT);
    }

    public int show(int kind, int p, long bits) throws IllegalArgumentException {
        if (kind < 0 || kind >= SHOWN.length() || p < 0 || p > MOST_SHOWN) {
            throw new IllegalArgumentException("kind is 0 to 2, p 0 to 1200");
        }
        result.keep(0);
        printer.writeBare(SHOWN.charAt(kind), p, bits);
        return result.length;
    }

    public int argument(int kind, long v)
        throws IllegalArgumentException, IndexOutOfBoundsException, UnsupportedOperationException {
        if (kind < KIND_NONE || kind > KIND_DOUBLE) {
            throw new IllegalArgumentException("kind is 0 to 6");
        }
        if (arguments.size >= ARGUMENTS) {
            throw new IndexOutOfBoundsException("there are 16 arguments");
        }
        if (kind == KIND_CHARACTER && !isCharacter(v)) {
            throw new UnsupportedOperationException("a character is 32 to 126");
        }
        arguments.add(kind, v);
        return arguments.size;
    }

    public int text() throws IndexOutOfBoundsException {
        boolean fits = arguments.size < ARGUMENTS && tape.length <= TEXT_BYTES;
        if (fits) {
            arguments.addText(tape);
        }
        tape.keep(0);
        if (!fits) {
            throw new IndexOutOfBoundsException("there are 16 arguments, or the text is too long");
        }
        return arguments.size;
    }

    public int clear() {
        int before = arguments.size;
        arguments.size = 0;
        return before;
    }

    public int compile(int f) throws IllegalArgumentException, IndexOutOfBoundsException,
        UnsupportedOperationException, IllegalStateException {
        if (f < 0 || f >= FORMATS) {
            throw new IllegalArgumentException("f is 0 to 7");
        }
        place = NONE;
        boolean fits = tape.length <= FORMAT_BYTES;
        if (fits) {
            spare.text.copy(tape);
        }
        tape.keep(0);
        if (!fits) {
            throw new IndexOutOfBoundsException("the format is too long");
        }
        place = spare.firstWrong();
        if (place != NONE) {
            throw new UnsupportedOperationException("a % that is no directive");
        }
        place = spare.firstBarred();
        if (place != NONE) {
            throw new IllegalStateException("a directive that is barred");
        }
        spare.numberArguments();
        return keepSpare(f);
    }

    public int format(int f) throws IllegalArgumentException, IllegalStateException, NoSuchElementException,
        UnsupportedOperationException, IndexOutOfBoundsException {
        if (f < 0 || f >= FORMATS) {
            throw new IllegalArgumentException("f is 0 to 7");
        }
        Format chosen = formats[f];
        if (!chosen.present) {
            throw new IllegalStateException("there is no such format");
        }
        place = NONE;
        result.keep(0);
        int outcome = PRINTED;
        int from = 0;
        for (int i = 0; i < chosen.directives && outcome == PRINTED; i++) {
            result.addPart(chosen.text, from, chosen.place[i]);
            outcome = result.over ? OVERFULL : printer.writeDirective(chosen, i);
            place = outcome == MISSING || outcome == UNFIT ? chosen.place[i] : NONE;
            from = chosen.after[i];
        }
        if (outcome == PRINTED) {
            result.addPart(chosen.text, from, chosen.text.length);
            outcome = result.over ? OVERFULL : PRINTED;
        }
        if (outcome != PRINTED) {
            result.keep(0);
        }
        if (outcome == MISSING) {
            throw new NoSuchElementException("an argument is missing");
        }
        if (outcome == UNFIT) {
            throw new UnsupportedOperationException("an argument is of another kind");
        }
        if (outcome == OVERFULL) {
            throw new IndexOutOfBoundsException("the result is too long");
        }
        return result.length;
    }

    public long word(int i) throws IndexOutOfBoundsException {
        if (i < 0 || i >= result.length) {
            throw new IndexOutOfBoundsException("no byte of the result");
        }
        long word = 0;
        for (int j = 0; j < 8; j++) {
            word = word << 8 | Math.max(result.at(i + j), 0);
        }
        return word;
    }

    public int count(int what) throws IllegalArgumentException {
        switch (what) {
            case 0:
                return tape.length;
            case 1:
                return result.length;
            case 2:
                return arguments.size;
            case 3:
                return place;
            case 4:
                return formatCount;
            default:
                throw new IllegalArgumentException("what is 0 to 4");
        }
    }

    private int keepSpare(int f) {
        Format old = formats[f];
        if (!old.present) {
            formatCount++;
        }
        spare.present = true;
        formats[f] = spare;
        spare = old;
        return formats[f].directives;
    }

    private static boolean isCharacter(long v) {
        return v >= 32 && v <= 126;
    }

    private static boolean isDigit(int b) {
        return b >= '0' && b <= '9';
    }

    /** What is left of m without its lowest bits, drop 1 to 62: the nearest, of two the even one. */
    private static long nearestEven(long m, int drop) {
        long kept = m >>> drop;
        long lost = m & ((1L << drop) - 1);
        long half = 1L << (drop - 1);
        boolean up = lost > half || lost == half && (kept & 1) != 0;
        return up ? kept + 1 : kept;
    }

    /** The two kinds of binary floating point numbers: c 2^q with c below 2^digits. */
    private enum Size {
        DOUBLE(53, -1074, 971, 63),
        FLOAT(24, -149, 104, 31);

        final int digits;
        final int least;
        final int greatest;
        final int signAt;

        Size(int digits, int least, int greatest, int signAt) {
            this.digits = digits;
            this.least = least;
            this.greatest = greatest;
            this.signAt = signAt;
        }

        /** The lowest bits that hold the fraction. */
        long fractionMask() {
            return (1L << (digits - 1)) - 1;
        }

        /** The exponent of all ones, as it stands behind the sign. */
        int exponentMask() {
            return greatest - least + 2;
        }

        long infinity() {
            return (long) exponentMask() << (digits - 1);
        }

        long notANumber() {
            return infinity() | 1L << (digits - 2);
        }

        /** The bits of m 2^t rounded; m is below 2^62, and its lowest bit tells of all that is lost below it. */
        long rounded(long m, int t) {
            if (m == 0) {
                return 0;
            }
            int length = 64 - Long.numberOfLeadingZeros(m);
            int q = Math.max(t + length - digits, least);
            int drop = q - t;
            if (drop > 62) {
                return 0;
            }
            long c = drop > 0 ? nearestEven(m, drop) : m << -drop;
            if (c >>> digits != 0) {
                c >>>= 1;
                q++;
            }
            if (q > greatest) {
                return infinity();
            }
            if (c >>> (digits - 1) == 0) {
                return c;
            }
            return (long) (q - least + 1) << (digits - 1) | c & fractionMask();
        }
    }

    /** A floating point number taken to pieces. */
    private static final class Binary {
        Size size = Size.DOUBLE;
        boolean negative = false;
        boolean notANumber = false;
        boolean infinite = false;
        long c = 0;
        int q = 0;

        void take(Size kind, long bits) {
            size = kind;
            long fraction = bits & kind.fractionMask();
            int exponent = (int) (bits >>> (kind.digits - 1)) & kind.exponentMask();
            boolean special = exponent == kind.exponentMask();
            notANumber = special && fraction != 0;
            infinite = special && fraction == 0;
            negative = !notANumber && (bits >>> kind.signAt & 1) != 0;
            c = exponent == 0 ? fraction : fraction | 1L << (kind.digits - 1);
            q = kind.least + Math.max(exponent - 1, 0);
        }

        /** The next smaller number is only half as far as the next greater one. */
        boolean isUneven() {
            return c == 1L << (size.digits - 1) && q > size.least;
        }
    }

    /** A row of bytes up to a limit; what comes beyond it is dropped, and that is remembered. */
    private static final class Bytes {
        final byte[] row;
        int length = 0;
        boolean over = false;

        Bytes(int limit) {
            row = new byte[limit];
        }

        void keep(int n) {
            length = Math.min(Math.max(n, 0), length);
            over = false;
        }

        /** The byte without sign, NONE where there is none. */
        int at(int i) {
            return i >= 0 && i < length ? row[i] & 0xff : NONE;
        }

        void add(int b) {
            if (length < row.length) {
                row[length] = (byte) b;
                length++;
            } else {
                over = true;
            }
        }

        void addInt(int four) {
            add(four >>> 24);
            add(four >>> 16);
            add(four >>> 8);
            add(four);
        }

        void addTimes(int b, int times) {
            int fitting = Math.min(Math.max(times, 0), row.length - length);
            for (int i = 0; i < fitting; i++) {
                row[length + i] = (byte) b;
            }
            length += fitting;
            over = over || fitting < times;
        }

        void addString(String s) {
            for (int i = 0; i < s.length(); i++) {
                add(s.charAt(i));
            }
        }

        void addPart(Bytes other, int from, int to) {
            int start = Math.min(Math.max(from, 0), other.length);
            int wanted = Math.max(Math.min(to, other.length) - start, 0);
            int fitting = Math.min(wanted, row.length - length);
            System.arraycopy(other.row, start, row, length, fitting);
            length += fitting;
            over = over || fitting < wanted;
        }

        void copy(Bytes other) {
            keep(0);
            addPart(other, 0, other.length);
        }

        /** An exponent: below 10000, with zeros before it up to the digits wanted. */
        void addNumber(int n, int wanted) {
            int unit = 1000;
            for (int digits = 4; digits > 0; digits--) {
                if (n >= unit || digits <= wanted) {
                    add('0' + n / unit % 10);
                }
                unit = Math.max(unit / 10, 1);
            }
        }
    }

    /** A natural number of any size that is needed here: 801 decimal digits at most are read, and 5^1126. */
    private static final class Big {
        private static final int LIMBS = 96;
        private static final long LOW = 0xffffffffL;
        private static final int BILLION = 1000000000;
        private static final int MOST_FIVES = 13;
        private static final int[] FIVES = {
            1, 5, 25, 125, 625, 3125, 15625, 78125, 390625, 1953125, 9765625, 48828125, 244140625, 1220703125
        };

        /** The lowest first; the highest of the size is never 0. */
        final int[] limbs = new int[LIMBS];
        int size = 0;

        long limb(int i) {
            return i >= 0 && i < size ? limbs[i] & LOW : 0;
        }

        boolean isZero() {
            return size == 0;
        }

        int bitLength() {
            return size * 32 - (size == 0 ? 0 : Integer.numberOfLeadingZeros(limbs[size - 1]));
        }

        void set(long value) {
            limbs[0] = (int) value;
            limbs[1] = (int) (value >>> 32);
            size = 2;
            trim();
        }

        void setTimes(long value, int fives, int twos) {
            set(value);
            timesFives(fives);
            shiftLeft(twos);
        }

        void copy(Big other) {
            size = other.size;
            System.arraycopy(other.limbs, 0, limbs, 0, size);
        }

        private void trim() {
            for (int i = size; i > 0 && limbs[i - 1] == 0; i--) {
                size = i - 1;
            }
        }

        void timesPlus(int factor, int addend) {
            long carry = addend;
            for (int i = 0; i < size; i++) {
                carry += (limbs[i] & LOW) * factor;
                limbs[i] = (int) carry;
                carry >>>= 32;
            }
            if (carry != 0 && size < LIMBS) {
                limbs[size] = (int) carry;
                size++;
            }
        }

        void timesFives(int power) {
            int left = power;
            for (; left > MOST_FIVES; left -= MOST_FIVES) {
                timesPlus(FIVES[MOST_FIVES], 0);
            }
            if (left > 0) {
                timesPlus(FIVES[left], 0);
            }
        }

        void shiftLeft(int bits) {
            if (bits <= 0) {
                return;
            }
            int whole = bits >> 5;
            int rest = bits & 31;
            int grown = Math.min(size + whole + 1, LIMBS);
            // from the highest down, since the limbs move up in place
            for (int i = grown - 1; i >= 0; i--) {
                long pair = limb(i - whole) << 32 | limb(i - whole - 1);
                limbs[i] = (int) (pair >>> (32 - rest));
            }
            size = grown;
            trim();
        }

        int against(Big other) {
            if (size != other.size) {
                return size < other.size ? -1 : 1;
            }
            for (int i = size - 1; i >= 0; i--) {
                if (limbs[i] != other.limbs[i]) {
                    return (limbs[i] & LOW) < (other.limbs[i] & LOW) ? -1 : 1;
                }
            }
            return 0;
        }

        /** The other one, so many times, must not be greater. */
        void minusTimes(Big other, int times) {
            long carry = 0;
            for (int i = 0; i < size; i++) {
                long taken = other.limb(i) * times + carry;
                long left = (limbs[i] & LOW) - (taken & LOW);
                limbs[i] = (int) left;
                carry = (taken >>> 32) + (left < 0 ? 1 : 0);
            }
            trim();
        }

        /** Answers what is left over. */
        int divideByBillion() {
            long rest = 0;
            for (int i = size - 1; i >= 0; i--) {
                long part = rest << 32 | limbs[i] & LOW;
                limbs[i] = (int) (part / BILLION);
                rest = part % BILLION;
            }
            trim();
            return (int) rest;
        }
    }

    /** A decimal 0.d1 d2 .. 10^point; 0 has no digits and the point behind one. */
    private static final class Decimal {
        private static final int CHUNKS = 88;
        private static final int CHUNK_DIGITS = 9;
        private static final int CHUNK_TOP = 100000000;
        private static final long LONG_TOP = 1000000000000000000L;

        private final Big number = new Big();
        private final int[] chunks = new int[CHUNKS];
        private final byte[] digits = new byte[CHUNKS * CHUNK_DIGITS];
        int size = 0;
        int point = 1;

        int digit(int i) {
            return i >= 0 && i < size ? digits[i] : 0;
        }

        /** Zeros before the first other digit are not kept. */
        private void append(int digit) {
            if ((size > 0 || digit > 0) && size < digits.length) {
                digits[size] = (byte) digit;
                size++;
            }
        }

        /** The digits of v without its sign. */
        void takeWhole(long v) {
            // negative, since the least long has no positive one
            long left = v < 0 ? v : -v;
            size = 0;
            for (long unit = LONG_TOP; unit > 0; unit /= 10) {
                append((int) -(left / unit));
                left %= unit;
            }
            point = size == 0 ? 1 : size;
        }

        /** All digits of c 2^q. */
        void takeExact(long c, int q) {
            size = 0;
            point = 1;
            if (c == 0) {
                return;
            }
            int even = Long.numberOfTrailingZeros(c);
            int power = q + even;
            number.set(c >>> even);
            if (power >= 0) {
                number.shiftLeft(power);
            } else {
                number.timesFives(-power);
            }
            takeNumber();
            point = size + Math.min(power, 0);
        }

        private void takeNumber() {
            int used = 0;
            for (; used < CHUNKS && !number.isZero(); used++) {
                chunks[used] = number.divideByBillion();
            }
            for (int i = used - 1; i >= 0; i--) {
                for (int unit = CHUNK_TOP; unit > 0; unit /= 10) {
                    append(chunks[i] / unit % 10);
                }
            }
        }

        void dropZeros() {
            for (int i = size; i > 0 && digits[i - 1] == 0; i--) {
                size = i - 1;
            }
        }

        /** Halves go up in size, so the first digit that is left out decides alone. */
        void roundTo(int kept) {
            if (kept >= size) {
                return;
            }
            boolean up = digit(kept) >= 5;
            size = Math.max(kept, 0);
            if (up) {
                addOneToLast();
            } else if (size == 0) {
                point = 1;
            }
        }

        private void addOneToLast() {
            for (int i = size; i > 0 && digits[i - 1] == 9; i--) {
                size = i - 1;
            }
            if (size > 0) {
                digits[size - 1]++;
            } else {
                digits[0] = 1;
                size = 1;
                point++;
            }
        }

        void addWhole(Bytes out, boolean grouped) {
            int length = Math.max(point, 1);
            for (int i = 0; i < length; i++) {
                if (grouped && i > 0 && (length - i) % 3 == 0) {
                    out.add(',');
                }
                out.add('0' + digit(i + point - length));
            }
        }

        void addDigits(Bytes out, int from, int many) {
            int real = Math.min(many, Math.max(size - from, 0));
            for (int i = 0; i < real; i++) {
                out.add('0' + digit(from + i));
            }
            out.addTimes('0', many - real);
        }
    }

    /** Finds the shortest decimal that reads back, by long division with exact numbers. */
    private static final class Shortest {
        /** 17 digits tell every double apart. */
        private static final int MOST_DIGITS = 18;
        /** The highest limb of the divisor has so many bits: then a digit can be guessed from the highest limbs. */
        private static final int TOP_BITS = 28;

        private final Decimal decimal = new Decimal();
        /** The number is value / unit 10^point; its neighbours' borders are so far away as up and down say. */
        private final Big value = new Big();
        private final Big unit = new Big();
        private final Big up = new Big();
        private final Big down = new Big();
        private final Big rest = new Big();
        private int point = 0;

        void write(Binary x, Bytes out) {
            if (x.notANumber) {
                out.addString("NaN");
                return;
            }
            if (x.negative) {
                out.add('-');
            }
            if (x.infinite) {
                out.addString("Infinity");
            } else if (x.c == 0) {
                out.addString("0.0");
            } else {
                setUp(x);
                find((x.c & 1) == 0);
                writeDecimal(out);
            }
        }

        private void writeDecimal(Bytes out) {
            if (decimal.point >= -2 && decimal.point <= 7) {
                decimal.addWhole(out, false);
                out.add('.');
                decimal.addDigits(out, decimal.point, Math.max(decimal.size - decimal.point, 1));
            } else {
                decimal.addDigits(out, 0, 1);
                out.add('.');
                decimal.addDigits(out, 1, Math.max(decimal.size - 1, 1));
                out.addString(decimal.point > 0 ? "E" : "E-");
                out.addNumber(Math.abs(decimal.point - 1), 1);
            }
        }

        /** The borders themselves round to the number if it is even. */
        private void find(boolean even) {
            long digits = nextDigit();
            int size = 1;
            boolean found = false;
            for (; size < MOST_DIGITS && !found; size++) {
                digits = digits * 10 + nextDigit();
                rest.copy(unit);
                rest.minusTimes(value, 1);
                boolean lower = isWithin(value, down, even);
                boolean upper = isWithin(rest, up, even);
                found = lower || upper;
                if (upper && (!lower || isUpperBetter(digits))) {
                    digits++;
                }
            }
            decimal.takeWhole(digits);
            decimal.point += point - size;
            decimal.dropZeros();
        }

        private static boolean isWithin(Big distance, Big border, boolean even) {
            int order = distance.against(border);
            return order < 0 || order == 0 && even;
        }

        private boolean isUpperBetter(long digits) {
            int order = value.against(rest);
            return order > 0 || order == 0 && (digits & 1) != 0;
        }

        private void setUp(Binary x) {
            int top = x.q + 63 - Long.numberOfLeadingZeros(x.c);
            // 78913 / 2^18 is just below the decimal logarithm of 2; the number lies between 2^top and twice that,
            // so that the point is right or one too small
            point = (top * 78913 >> 18) + 1;
            int twos = x.q - point;
            int over = Math.max(twos, 0);
            value.setTimes(x.c, Math.max(-point, 0), over + 2);
            up.setTimes(1, Math.max(-point, 0), over + 1);
            down.setTimes(1, Math.max(-point, 0), x.isUneven() ? over : over + 1);
            unit.setTimes(1, Math.max(point, 0), Math.max(-twos, 0) + 2);
            if (value.against(unit) >= 0) {
                unit.timesPlus(10, 0);
                point++;
            }
            int shift = (TOP_BITS - unit.bitLength()) & 31;
            value.shiftLeft(shift);
            up.shiftLeft(shift);
            down.shiftLeft(shift);
            unit.shiftLeft(shift);
        }

        private int nextDigit() {
            value.timesPlus(10, 0);
            up.timesPlus(10, 0);
            down.timesPlus(10, 0);
            int top = unit.size - 1;
            int digit = (int) (value.limb(top) / (unit.limb(top) + 1));
            value.minusTimes(unit, digit);
            // the guess is never too great, and at most one too small
            if (value.against(unit) >= 0) {
                value.minusTimes(unit, 1);
                digit++;
            }
            return digit;
        }
    }

    /** Reads number texts into a binary number with more digits than any kind has. */
    private static final class Reader {
        private static final int NOT_A_NUMBER = 0;
        private static final int INFINITE = 1;
        private static final int FINITE = 2;
        /** A border between two doubles has at most 768 digits, so behind these it counts only whether one is not 0. */
        private static final int MOST_DIGITS = 800;
        private static final int CHUNK_FULL = 1000000000;
        /** Points from which on the number is surely infinite or 0. */
        private static final int POINT_TOO_HIGH = 311;
        private static final int POINT_TOO_LOW = -326;
        /** Far above what the digits of a full tape can make up for. */
        private static final int EXPONENT_ENOUGH = 100000000;
        private static final int QUOTIENT_BITS = 62;

        private final Big number = new Big();
        private final Big divisor = new Big();
        private final Bytes source;
        private int at = 0;
        private int stop = 0;
        private int form = FINITE;
        private boolean negative = false;
        private long mantissa = 0;
        private int power = 0;
        private int kept = 0;
        private boolean lost = false;
        private int exponent = 0;
        private int chunk = 0;
        private int chunkUnit = 1;

        Reader(Bytes source) {
            this.source = source;
        }

        boolean read() {
            startBehindBlanks();
            negative = sees('-');
            if (negative || sees('+')) {
                at++;
            }
            if (passes("NaN")) {
                form = NOT_A_NUMBER;
                return at == stop;
            }
            if (passes("Infinity")) {
                form = INFINITE;
                return at == stop;
            }
            startNumber();
            boolean hexadecimal = passes("0x") || passes("0X");
            if (!(hexadecimal ? readHexadecimal() : readDecimal())) {
                return false;
            }
            if (sees('f') || sees('F') || sees('d') || sees('D')) {
                at++;
            }
            if (at != stop) {
                return false;
            }
            if (hexadecimal) {
                finishHexadecimal();
            } else {
                finishDecimal();
            }
            return true;
        }

        long rounded(Size size) {
            if (form == NOT_A_NUMBER) {
                return size.notANumber();
            }
            long bits = form == INFINITE ? size.infinity() : size.rounded(mantissa, power);
            return negative ? bits | 1L << size.signAt : bits;
        }

        private void startBehindBlanks() {
            at = 0;
            stop = source.length;
            for (int i = 0; i < source.length && source.at(i) <= ' '; i++) {
                at = i + 1;
            }
            for (int i = source.length; i > at && source.at(i - 1) <= ' '; i--) {
                stop = i - 1;
            }
        }

        private void startNumber() {
            form = FINITE;
            number.set(0);
            mantissa = 0;
            power = 0;
            kept = 0;
            lost = false;
            exponent = 0;
            chunk = 0;
            chunkUnit = 1;
        }

        private int here() {
            return at < stop ? source.at(at) : NONE;
        }

        private boolean sees(int b) {
            return here() == b;
        }

        private boolean passes(String word) {
            if (stop - at < word.length()) {
                return false;
            }
            for (int i = 0; i < word.length(); i++) {
                if (source.at(at + i) != word.charAt(i)) {
                    return false;
                }
            }
            at += word.length();
            return true;
        }

        private boolean readDecimal() {
            int seen = readDigits(false);
            if (sees('.')) {
                at++;
                seen += readDigits(true);
            }
            if (seen == 0) {
                return false;
            }
            return !(sees('e') || sees('E')) || readExponent();
        }

        private boolean readHexadecimal() {
            int seen = readHexDigits(false);
            if (sees('.')) {
                at++;
                seen += readHexDigits(true);
            }
            return seen > 0 && (sees('p') || sees('P')) && readExponent();
        }

        /** Here power is one of ten. */
        private int readDigits(boolean behind) {
            int from = at;
            for (; at < stop && isDigit(here()); at++) {
                int digit = here() - '0';
                boolean leading = kept == 0 && digit == 0;
                boolean counts = !leading && kept < MOST_DIGITS;
                if (counts) {
                    keepDigit(digit);
                } else if (digit != 0) {
                    lost = true;
                }
                if (behind && (counts || leading)) {
                    power--;
                } else if (!behind && !counts && !leading) {
                    power++;
                }
            }
            return at - from;
        }

        private void keepDigit(int digit) {
            kept++;
            chunk = chunk * 10 + digit;
            chunkUnit *= 10;
            if (chunkUnit == CHUNK_FULL) {
                keepChunk();
            }
        }

        private void keepChunk() {
            number.timesPlus(chunkUnit, chunk);
            chunk = 0;
            chunkUnit = 1;
        }

        private int readHexDigits(boolean behind) {
            int from = at;
            for (; at < stop && hexValue(here()) >= 0; at++) {
                int digit = hexValue(here());
                if (mantissa >>> 56 == 0) {
                    mantissa = mantissa << 4 | digit;
                    power -= behind ? 4 : 0;
                } else {
                    lost = lost || digit != 0;
                    power += behind ? 0 : 4;
                }
            }
            return at - from;
        }

        private static int hexValue(int b) {
            if (isDigit(b)) {
                return b - '0';
            }
            if (b >= 'a' && b <= 'f') {
                return b - 'a' + 10;
            }
            return b >= 'A' && b <= 'F' ? b - 'A' + 10 : NONE;
        }

        /** Stands at the letter before it. */
        private boolean readExponent() {
            at++;
            boolean below = sees('-');
            if (below || sees('+')) {
                at++;
            }
            int from = at;
            for (; at < stop && isDigit(here()); at++) {
                if (exponent < EXPONENT_ENOUGH) {
                    exponent = exponent * 10 + here() - '0';
                }
            }
            if (below) {
                exponent = -exponent;
            }
            return at > from;
        }

        private void finishHexadecimal() {
            power += exponent;
            if (lost) {
                mantissa |= 1;
            }
        }

        private void finishDecimal() {
            keepChunk();
            if (lost) {
                number.timesPlus(10, 1);
                kept++;
                power--;
            }
            power += exponent;
            int point = kept + power;
            if (kept == 0 || point <= POINT_TOO_LOW) {
                power = 0;
            } else if (point >= POINT_TOO_HIGH) {
                form = INFINITE;
            } else {
                divisor.set(1);
                number.timesFives(Math.max(power, 0));
                divisor.timesFives(Math.max(-power, 0));
                divide();
            }
        }

        /** The quotient with some bits more than are needed; the lowest one tells whether anything is left over. */
        private void divide() {
            int longer = number.bitLength() - divisor.bitLength();
            divisor.shiftLeft(longer);
            number.shiftLeft(-longer);
            mantissa = 0;
            for (int i = 0; i < QUOTIENT_BITS; i++) {
                mantissa <<= 1;
                if (number.against(divisor) >= 0) {
                    number.minusTimes(divisor, 1);
                    mantissa |= 1;
                }
                number.timesPlus(2, 0);
            }
            if (!number.isZero()) {
                mantissa |= 1;
            }
            power += longer - (QUOTIENT_BITS - 1);
        }
    }

    /** The row of arguments. */
    private static final class Arguments {
        final int[] kinds = new int[ARGUMENTS];
        final long[] values = new long[ARGUMENTS];
        final Bytes[] texts = new Bytes[ARGUMENTS];
        int size = 0;

        Arguments() {
            for (int i = 0; i < ARGUMENTS; i++) {
                texts[i] = new Bytes(TEXT_BYTES);
            }
        }

        void add(int kind, long v) {
            if (size < ARGUMENTS) {
                kinds[size] = kind;
                values[size] = held(kind, v);
                size++;
            }
        }

        void addText(Bytes bytes) {
            if (size < ARGUMENTS) {
                texts[size].copy(bytes);
                add(KIND_TEXT, 0);
            }
        }

        private static long held(int kind, long v) {
            if (kind == KIND_TRUTH) {
                return v == 1 ? 1 : 0;
            }
            return kind == KIND_INT || kind == KIND_FLOAT ? (int) v : v;
        }
    }

    /** A text with its directives, each a column of the rows. */
    private static final class Format {
        static final int MINUS = 1;
        static final int SHARP = 2;
        static final int PLUS = 4;
        static final int BLANK = 8;
        static final int ZERO = 16;
        static final int COMMA = 32;
        static final int PAREN = 64;
        /** Allowed with no conversion. */
        private static final int TWICE = 128;
        private static final int ALL_FLAGS = MINUS | SHARP | PLUS | BLANK | ZERO | COMMA | PAREN;
        /** In the order of the bits above. */
        private static final String FLAGS = "-#+ 0,(";
        private static final String CONVERSIONS = "doxXeEfgGaAcCsSbB%n";
        private static final String WITHOUT_PRECISION = "doxXcC%n";
        private static final int GREATEST = 9999;
        /** The shortest directive has two bytes. */
        private static final int MOST_DIRECTIVES = FORMAT_BYTES / 2;
        /** Indices that are no numbers: the next argument, the same argument. */
        private static final int NEXT = 0;
        private static final int SAME = -1;

        final Bytes text = new Bytes(FORMAT_BYTES);
        final int[] place = new int[MOST_DIRECTIVES];
        final int[] after = new int[MOST_DIRECTIVES];
        final int[] flags = new int[MOST_DIRECTIVES];
        final int[] width = new int[MOST_DIRECTIVES];
        final int[] precision = new int[MOST_DIRECTIVES];
        final int[] conversion = new int[MOST_DIRECTIVES];
        /** As written at first, then the number of the argument, NONE if there can be none. */
        final int[] index = new int[MOST_DIRECTIVES];
        int directives = 0;
        boolean present = false;
        private int at = 0;

        /** Reads all directives, up to the first % that is none: its place, or NONE. */
        int firstWrong() {
            directives = 0;
            at = 0;
            for (int i = 0; i < text.length; i++) {
                if (i >= at && text.at(i) == '%' && !readDirective(i)) {
                    return i;
                }
            }
            return NONE;
        }

        private boolean readDirective(int start) {
            if (directives >= MOST_DIRECTIVES) {
                return false;
            }
            int i = directives;
            at = start + 1;
            place[i] = start;
            index[i] = NEXT;
            flags[i] = 0;
            width[i] = NONE;
            precision[i] = NONE;
            readIndexOrWidth(i);
            if (width[i] == NONE) {
                readFlagsAndWidth(i);
            }
            if (text.at(at) == '.') {
                at++;
                if (!isDigit(text.at(at))) {
                    return false;
                }
                precision[i] = readNumber();
            }
            conversion[i] = text.at(at);
            at++;
            after[i] = at;
            directives++;
            return index[i] <= GREATEST && width[i] <= GREATEST && precision[i] <= GREATEST
                && has(CONVERSIONS, conversion[i]);
        }

        /** Digits right behind the % are a width if no $ follows, and then no flag can come. */
        private void readIndexOrWidth(int i) {
            int first = text.at(at);
            if (first == '<') {
                index[i] = SAME;
                at++;
            } else if (isDigit(first) && first != '0') {
                int number = readNumber();
                if (text.at(at) == '$') {
                    index[i] = number;
                    at++;
                } else {
                    width[i] = number;
                }
            }
        }

        private void readFlagsAndWidth(int i) {
            for (; at < text.length && has(FLAGS, text.at(at)); at++) {
                int flag = 1 << FLAGS.indexOf((char) text.at(at));
                flags[i] |= (flags[i] & flag) != 0 ? TWICE : flag;
            }
            if (isDigit(text.at(at))) {
                width[i] = readNumber();
            }
        }

        /** A number that is too great stays so, however many digits follow. */
        private int readNumber() {
            int number = 0;
            for (; at < text.length && isDigit(text.at(at)); at++) {
                number = Math.min(number * 10 + text.at(at) - '0', GREATEST + 1);
            }
            return number;
        }

        private static boolean has(String some, int b) {
            return b >= 0 && some.indexOf((char) b) >= 0;
        }

        int firstBarred() {
            for (int i = 0; i < directives; i++) {
                if (isBarred(i)) {
                    return place[i];
                }
            }
            return NONE;
        }

        private boolean isBarred(int i) {
            int c = conversion[i];
            if ((flags[i] & ~allowedFlags(c)) != 0) {
                return true;
            }
            if (hasBoth(flags[i], MINUS | ZERO) || hasBoth(flags[i], PLUS | BLANK)) {
                return true;
            }
            if ((flags[i] & (MINUS | ZERO)) != 0 && width[i] == NONE) {
                return true;
            }
            if (precision[i] != NONE && has(WITHOUT_PRECISION, c)) {
                return true;
            }
            if (c == 'n' && width[i] != NONE) {
                return true;
            }
            return !takesArgument(i) && index[i] != NEXT;
        }

        private static boolean hasBoth(int some, int two) {
            return (some & two) == two;
        }

        private static int allowedFlags(int c) {
            switch (c) {
                case 'd':
                    return ALL_FLAGS & ~SHARP;
                case 'o':
                case 'x':
                case 'X':
                    return MINUS | SHARP | ZERO;
                case 'e':
                case 'E':
                    return ALL_FLAGS & ~COMMA;
                case 'f':
                    return ALL_FLAGS;
                case 'g':
                case 'G':
                    return ALL_FLAGS & ~SHARP;
                case 'a':
                case 'A':
                    return MINUS | SHARP | PLUS | BLANK | ZERO;
                case 'n':
                    return 0;
                default:
                    return MINUS;
            }
        }

        private boolean takesArgument(int i) {
            return conversion[i] != '%' && conversion[i] != 'n';
        }

        /** What each directive takes is known without the arguments. */
        void numberArguments() {
            int next = 0;
            int same = NONE;
            for (int i = 0; i < directives; i++) {
                if (takesArgument(i)) {
                    if (index[i] == NEXT) {
                        same = next;
                        next++;
                    } else if (index[i] != SAME) {
                        same = index[i] - 1;
                    }
                    index[i] = same;
                }
            }
        }
    }

    /** Prints directives with arguments. */
    private static final class Printer {
        /** More than the longest number: 309 digits with their commas, a point and 9999 digits, or some zeros more. */
        private static final int BODY_BYTES = 10600;
        private static final int HEAD_BYTES = 4;
        private static final int USUAL_PRECISION = 6;
        private static final int HEX_DIGITS = 13;
        private static final int FRACTION_BITS = 52;
        private static final String DIGITS = "0123456789abcdef";

        private final Bytes result;
        private final Arguments arguments;
        private final Shortest shortest;
        private final Decimal decimal = new Decimal();
        private final Binary binary = new Binary();
        /** What stands before zeros that fill up, and what stands behind them. */
        private final Bytes head = new Bytes(HEAD_BYTES);
        private final Bytes body = new Bytes(BODY_BYTES);
        private boolean closed = false;
        private boolean zeros = false;
        private int flags = 0;
        private int width = NONE;
        private int precision = NONE;
        private boolean upper = false;
        /** The conversion as a small letter. */
        private int letter = 's';

        Printer(Bytes result, Arguments arguments, Shortest shortest) {
            this.result = result;
            this.arguments = arguments;
            this.shortest = shortest;
        }

        void writeBare(int conversion, int p, long bits) {
            start(conversion, 0, NONE, p);
            fillFloating(KIND_DOUBLE, bits);
            layOut();
        }

        int writeDirective(Format format, int i) {
            start(format.conversion[i], format.flags[i], format.width[i], format.precision[i]);
            int n = format.index[i];
            if (letter == 'n') {
                body.add('\n');
            } else if (letter == '%') {
                body.add('%');
            } else if (n < 0 || n >= arguments.size) {
                return MISSING;
            } else if (!fits(arguments.kinds[n], arguments.values[n])) {
                return UNFIT;
            } else if (arguments.kinds[n] == KIND_NONE || letter == 's' || letter == 'b') {
                fillPlain(n);
            } else if (letter == 'c') {
                body.add((int) arguments.values[n]);
            } else if (letter == 'd') {
                fillWhole(arguments.values[n]);
            } else if (letter == 'o' || letter == 'x') {
                fillBits(arguments.kinds[n], arguments.values[n]);
            } else {
                fillFloating(arguments.kinds[n], arguments.values[n]);
            }
            layOut();
            return result.over ? OVERFULL : PRINTED;
        }

        private void start(int conversion, int flags, int width, int precision) {
            this.flags = flags;
            this.width = width;
            this.precision = precision;
            upper = conversion >= 'A' && conversion <= 'Z';
            letter = upper ? conversion - 'A' + 'a' : conversion;
            zeros = has(Format.ZERO);
            closed = false;
            head.keep(0);
            body.keep(0);
        }

        private boolean has(int flag) {
            return (flags & flag) != 0;
        }

        private boolean fits(int kind, long value) {
            if (kind == KIND_NONE) {
                return true;
            }
            switch (letter) {
                case 's':
                case 'b':
                    return true;
                case 'c':
                    return kind == KIND_CHARACTER || kind == KIND_INT && isCharacter(value);
                case 'd':
                case 'o':
                case 'x':
                    return kind == KIND_INT || kind == KIND_LONG;
                default:
                    return kind == KIND_FLOAT || kind == KIND_DOUBLE;
            }
        }

        private void fillPlain(int n) {
            int kind = arguments.kinds[n];
            long value = arguments.values[n];
            zeros = false;
            if (letter == 'b') {
                boolean no = kind == KIND_NONE || kind == KIND_TRUTH && value == 0;
                body.addString(no ? "false" : "true");
            } else if (kind == KIND_NONE) {
                body.addString("null");
            } else if (kind == KIND_TRUTH) {
                body.addString(value == 0 ? "false" : "true");
            } else if (kind == KIND_CHARACTER) {
                body.add((int) value);
            } else if (kind == KIND_TEXT) {
                body.copy(arguments.texts[n]);
            } else if (kind == KIND_INT || kind == KIND_LONG) {
                fillWhole(value);
            } else {
                binary.take(kind == KIND_FLOAT ? Size.FLOAT : Size.DOUBLE, value);
                shortest.write(binary, body);
            }
            cut();
        }

        private void fillWhole(long value) {
            addSign(value < 0);
            decimal.takeWhole(value);
            decimal.addWhole(body, has(Format.COMMA));
        }

        private void fillBits(int kind, long value) {
            long bits = kind == KIND_INT ? value & 0xffffffffL : value;
            int step = letter == 'x' ? 4 : 3;
            if (has(Format.SHARP)) {
                head.addString(letter == 'x' ? "0x" : "0");
            }
            int length = Math.max(64 - Long.numberOfLeadingZeros(bits), 1);
            for (int shift = (length - 1) / step * step; shift >= 0; shift -= step) {
                addHexDigit(bits >>> shift & ((1 << step) - 1));
            }
        }

        private void addHexDigit(long value) {
            body.add(DIGITS.charAt((int) value & 15));
        }

        private void addSign(boolean negative) {
            if (negative) {
                closed = has(Format.PAREN);
                head.add(closed ? '(' : '-');
            } else if (has(Format.PLUS)) {
                head.add('+');
            } else if (has(Format.BLANK)) {
                head.add(' ');
            }
        }

        private void fillFloating(int kind, long bits) {
            binary.take(kind == KIND_FLOAT ? Size.FLOAT : Size.DOUBLE, bits);
            if (binary.notANumber) {
                zeros = false;
                body.addString("NaN");
                return;
            }
            addSign(binary.negative);
            if (binary.infinite) {
                zeros = false;
                body.addString("Infinity");
            } else if (letter == 'a') {
                fillHexadecimal();
            } else {
                fillDecimal();
            }
        }

        private void fillDecimal() {
            int places = precision == NONE ? USUAL_PRECISION : precision;
            boolean scientific = letter == 'e';
            decimal.takeExact(binary.c, binary.q);
            if (letter == 'g') {
                // the point of 0 stands behind one digit, so that 0 needs no rule of its own
                int digits = Math.max(places, 1);
                decimal.roundTo(digits);
                scientific = decimal.point < -3 || decimal.point > digits;
                places = scientific ? digits - 1 : digits - decimal.point;
            }
            if (scientific) {
                fillScientific(places);
            } else {
                fillFixed(places);
            }
        }

        private void fillFixed(int places) {
            decimal.roundTo(decimal.point + places);
            decimal.addWhole(body, has(Format.COMMA));
            addPoint(places);
            decimal.addDigits(body, decimal.point, places);
        }

        private void fillScientific(int places) {
            decimal.roundTo(places + 1);
            decimal.addDigits(body, 0, 1);
            addPoint(places);
            decimal.addDigits(body, 1, places);
            int power = decimal.point - 1;
            body.addString(power < 0 ? "e-" : "e+");
            body.addNumber(Math.abs(power), 2);
        }

        private void addPoint(int places) {
            if (places > 0 || has(Format.SHARP)) {
                body.add('.');
            }
        }

        private void fillHexadecimal() {
            head.addString("0x");
            boolean whole = precision == NONE || precision >= HEX_DIGITS;
            int wanted = Math.max(precision, 1);
            if (binary.c == 0) {
                body.addString("0.");
                body.addTimes('0', whole ? 1 : wanted);
                body.addString("p0");
            } else if (whole) {
                fillWholeFraction();
            } else {
                fillRoundedFraction(wanted);
            }
        }

        private void fillWholeFraction() {
            int room = Long.numberOfLeadingZeros(binary.c) - (63 - FRACTION_BITS);
            int shift = Math.min(room, binary.q - Size.DOUBLE.least);
            long c = binary.c << shift;
            int power = binary.q - shift + FRACTION_BITS;
            int dropped = Math.min(Long.numberOfTrailingZeros(c) / 4, HEX_DIGITS - 1);
            addFraction(c >>> 4 * dropped, HEX_DIGITS - dropped, power);
        }

        private void fillRoundedFraction(int wanted) {
            int shift = Long.numberOfLeadingZeros(binary.c) - (63 - FRACTION_BITS);
            int power = binary.q - shift + FRACTION_BITS;
            long c = nearestEven(binary.c << shift, FRACTION_BITS - 4 * wanted);
            if (c >>> 4 * wanted > 1) {
                c >>>= 1;
                power++;
            }
            addFraction(c, wanted, power);
        }

        private void addFraction(long c, int digits, int power) {
            addHexDigit(c >>> 4 * digits);
            body.add('.');
            for (int shift = 4 * (digits - 1); shift >= 0; shift -= 4) {
                addHexDigit(c >>> shift);
            }
            body.addString(power < 0 ? "p-" : "p");
            body.addNumber(Math.abs(power), 1);
        }

        /** The sign of a whole number stands in the head, and counts, too. */
        private void cut() {
            if (precision != NONE) {
                int first = Math.min(head.length, precision);
                head.keep(first);
                body.keep(precision - first);
            }
        }

        private void layOut() {
            int filled = width - head.length - body.length - (closed ? 1 : 0);
            boolean left = has(Format.MINUS);
            if (!left && !zeros) {
                result.addTimes(' ', filled);
            }
            addCased(head);
            if (zeros) {
                result.addTimes('0', filled);
            }
            addCased(body);
            if (closed) {
                result.add(')');
            }
            if (left) {
                result.addTimes(' ', filled);
            }
        }

        private void addCased(Bytes bytes) {
            if (!upper) {
                result.addPart(bytes, 0, bytes.length);
                return;
            }
            for (int i = 0; i < bytes.length; i++) {
                int b = bytes.at(i);
                result.add(b >= 'a' && b <= 'z' ? b - 'a' + 'A' : b);
            }
        }
    }
}
