import java.util.Map;

/** Promise 9: argument. */
public final class Promise09Test {
    private static Check check = new Check("Promise 9");

    public static void main(String[] args) {
        kinds();
        truths();
        characters();
        wholes();
        floating();
        sixteen();
        order();
        answer();
        check.done();
    }

    /** What one argument is, seen through a format. */
    private static String seen(int kind, long v, String format) {
        Subject x = new Subject();
        x.argument(kind, v);
        x.withFormat(0, format).format(0);
        return x.result();
    }

    private static void kinds() {
        check.sentence("kind 0 .. 6");
        String[] due = {"null", "false", "A", "65", "65", "9.1E-44", "3.2E-322"};
        for (int kind = 0; kind <= 6; kind++) {
            check.due("kind " + kind, seen(kind, 65, "%s"), due[kind]);
        }
        for (int kind : new int[] {-1, 7, 8, Integer.MIN_VALUE, Integer.MAX_VALUE}) {
            check.refusesChanging("argument(" + kind + ", 65)", IllegalArgumentException.class, State::rich,
                x -> x.argument(kind, 65));
        }
        check.sentence("0 none");
        for (long v : new long[] {0, 1, -1, Long.MIN_VALUE}) {
            check.due("none with v " + v, seen(0, v, "%s %1$b"), "null false");
        }
    }

    private static void truths() {
        check.sentence("1 TRUTH (1 if v is 1; any other v is 0)");
        check.due("v 1", seen(1, 1, "%s %1$b"), "true true");
        for (long v : new long[] {0, 2, 3, -1, 255, 257, 65537, 1L << 32, (1L << 32) + 1, Long.MIN_VALUE + 1,
            Long.MAX_VALUE}) {
            check.due("v " + v, seen(1, v, "%s %1$b"), "false false");
        }
    }

    private static void characters() {
        check.sentence("2 CHARACTER (v 32 .. 126)");
        for (long v = 32; v <= 126; v++) {
            check.due("v " + v, seen(2, v, "%c%1$s"), "" + (char) v + (char) v);
        }
        check.sentence("a CHARACTER that is none: UnsupportedOperationException");
        for (long v : new long[] {31, 127, 0, -1, 128, 255, 256 + 65, 65536 + 65, (1L << 32) + 65, (1L << 63) + 65,
            Long.MIN_VALUE, Long.MAX_VALUE}) {
            check.refusesChanging("argument(2, " + v + ")", UnsupportedOperationException.class, State::rich,
                x -> x.argument(2, v));
        }
    }

    private static void wholes() {
        check.sentence("3 INT (v as an int), 4 LONG");
        check.due("2^31 - 1", seen(3, Integer.MAX_VALUE, "%d"), "2147483647");
        check.due("2^31", seen(3, 1L << 31, "%d"), "-2147483648");
        check.due("2^32 - 1", seen(3, (1L << 32) - 1, "%d"), "-1");
        check.due("2^32", seen(3, 1L << 32, "%d"), "0");
        check.due("2^32 + 5", seen(3, (1L << 32) + 5, "%s"), "5");
        check.due("-2^31", seen(3, Integer.MIN_VALUE, "%x"), "80000000");
        check.due("-2^31 - 1", seen(3, Integer.MIN_VALUE - 1L, "%d"), "2147483647");
        check.due("the least long", seen(3, Long.MIN_VALUE, "%d"), "0");
        check.due("an INT that is a character as an int", seen(3, (1L << 32) + 65, "%c"), "A");
        check.due("2^31", seen(4, 1L << 31, "%d"), "2147483648");
        check.due("2^32", seen(4, 1L << 32, "%d"), "4294967296");
        check.due("the greatest long", seen(4, Long.MAX_VALUE, "%d"), "9223372036854775807");
        check.due("the least long", seen(4, Long.MIN_VALUE, "%d"), "-9223372036854775808");
    }

    private static void floating() {
        check.sentence("5 FLOAT, 6 DOUBLE; DOUBLES are longs, FLOATS ints");
        check.due("1.1f", seen(5, Float.floatToRawIntBits(1.1f), "%s"), "1.1");
        check.due("the highest bits of v are no part of an int",
            seen(5, 0x700000000L | Float.floatToRawIntBits(1.1f), "%s"), "1.1");
        check.due("-0.0f", seen(5, 1L << 31, "%s"), "-0.0");
        check.due("-0.0f, as an int", seen(5, Integer.MIN_VALUE, "%s"), "-0.0");
        check.due("infinite", seen(5, 0x7f800000L, "%s"), "Infinity");
        check.due("NaN", seen(5, -1, "%s"), "NaN");
        check.due("1.1", seen(6, Double.doubleToRawLongBits(1.1), "%s"), "1.1");
        check.due("-0.0", seen(6, Long.MIN_VALUE, "%s"), "-0.0");
        check.due("the least", seen(6, 1, "%s"), "4.9E-324");
        check.due("NaN", seen(6, -1, "%s"), "NaN");
    }

    private static Subject full() {
        Subject x = State.rich();
        for (int i = x.count(2); i < 16; i++) {
            x.argument(3, i);
        }
        return x;
    }

    private static void sixteen() {
        check.sentence("there are 16: IndexOutOfBoundsException");
        Subject x = new Subject();
        for (int i = 1; i <= 16; i++) {
            int n = i;
            check.answers("argument " + i, i, () -> x.argument(3, 100 + n));
        }
        check.refuses("argument 17", IndexOutOfBoundsException.class, () -> x.argument(3, 0));
        check.refuses("argument 17 once more", IndexOutOfBoundsException.class, () -> x.argument(0, 0));
        check.answers("count(2)", 16, () -> x.count(2));
        x.withFormat(0, "%1$d %16$d").format(0);
        check.due("the first and the last", x.result(), "101 116");
        x.clear();
        check.answers("behind clear", 1, () -> x.argument(3, 7));
        for (int kind = 0; kind <= 6; kind++) {
            int k = kind;
            check.refusesChanging("argument(" + kind + ") to 16", IndexOutOfBoundsException.class, Promise09Test::full,
                y -> y.argument(k, 65));
        }
    }

    private static void order() {
        check.sentence("What is thrown, in this order: IllegalArgumentException: a number out of range; then as the call says");
        check.refusesChanging("no kind, to 16", IllegalArgumentException.class, Promise09Test::full,
            x -> x.argument(7, 65));
        check.refusesChanging("no kind, to 16", IllegalArgumentException.class, Promise09Test::full,
            x -> x.argument(-1, 0));
        check.refusesChanging("no character, to 16", IndexOutOfBoundsException.class, Promise09Test::full,
            x -> x.argument(2, 31));
        check.refusesChanging("no character, to 16", IndexOutOfBoundsException.class, Promise09Test::full,
            x -> x.argument(2, 127));
    }

    private static void answer() {
        check.sentence("One more ARGUMENT. Answers how many.");
        Map<String, String> now = check.changes("argument", "9", State::rich, x -> x.argument(4, 99), Check.ARGUMENTS);
        check.due("the arguments", now.get(Check.ARGUMENTS), "9:42|-7|text|null|c|true|1.5|-0.25|99|");
    }
}
