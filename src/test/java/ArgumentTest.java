/** Promises 9 to 11: argument, text and clear. */
public final class ArgumentTest {
    public static void main(String[] args) {
        Check check = new Check("ArgumentTest");
        kinds(check);
        refused(check);
        texts(check);
        cleared(check);
        check.done();
    }

    private static String printed(NumberText x, String format) {
        Check.put(x, format);
        x.compile(0);
        x.format(0);
        return Check.result(x);
    }

    private static void kinds(Check check) {
        NumberText x = new NumberText();
        long[][] rows = {{0, 77}, {1, 1}, {1, 2}, {1, 0x100000001L}, {2, 32}, {2, 126}, {3, 0x1fffffffeL},
            {4, 0x1fffffffeL}, {5, 0x700000000L | Float.floatToRawIntBits(1.1f)}, {6, Double.doubleToRawLongBits(1.1)}};
        for (int i = 0; i < rows.length; i++) {
            long[] row = rows[i];
            check.answers("argument(" + row[0] + ")", i + 1, () -> x.argument((int) row[0], row[1]));
        }
        check.answers("count(2)", rows.length, () -> x.count(2));
        check.due("what they are", printed(x, "%s|%s|%s|%s|%s|%s|%s|%s|%s|%s"),
            "null|true|false|false| |~|-2|8589934590|1.1|1.1");
    }

    private static void refused(Check check) {
        NumberText x = new NumberText();
        for (int kind : new int[] {-1, 7, 8, Integer.MIN_VALUE, Integer.MAX_VALUE}) {
            check.refuses("argument(" + kind + ")", IllegalArgumentException.class, () -> x.argument(kind, 65));
        }
        for (long v : new long[] {31, 127, -1, 0, 256 + 65, (1L << 32) + 65}) {
            check.refuses("argument(2, " + v + ")", UnsupportedOperationException.class, () -> x.argument(2, v));
        }
        check.answers("count(2) stays", 0, () -> x.count(2));
        for (int i = 0; i < 16; i++) {
            int n = i;
            check.answers("argument", n + 1, () -> x.argument(3, n));
        }
        check.refuses("the 17th", IndexOutOfBoundsException.class, () -> x.argument(3, 0));
        check.refuses("the 17th, no character", IndexOutOfBoundsException.class, () -> x.argument(2, 0));
        check.refuses("the 17th, of no kind", IllegalArgumentException.class, () -> x.argument(7, 0));
        check.answers("count(2)", 16, () -> x.count(2));
        check.due("the 16th stays", printed(x, "%16$d"), "15");
    }

    private static void texts(Check check) {
        NumberText x = new NumberText();
        check.answers("text of an empty tape", 1, x::text);
        Check.put(x, "a".repeat(200));
        check.answers("text of 200", 2, x::text);
        check.answers("the tape behind it", 0, () -> x.count(0));
        Check.put(x, "a".repeat(201));
        check.refuses("text of 201", IndexOutOfBoundsException.class, x::text);
        check.answers("the tape behind it", 0, () -> x.count(0));
        check.answers("count(2)", 2, () -> x.count(2));
        Check.put(x, "\0x%d\u00e9");
        check.answers("text", 3, x::text);
        check.due("the texts", printed(x, "[%s][%s][%s]"), "[][" + "a".repeat(200) + "][\0x%d\u00e9]");
        for (int i = 3; i < 16; i++) {
            x.argument(0, 0);
        }
        Check.put(x, "late");
        check.refuses("the 17th", IndexOutOfBoundsException.class, x::text);
        check.answers("the tape behind it", 0, () -> x.count(0));
        check.answers("count(2)", 16, () -> x.count(2));
    }

    private static void cleared(Check check) {
        NumberText x = new NumberText();
        x.argument(3, 1);
        Check.put(x, "old text");
        x.text();
        check.answers("clear", 2, x::clear);
        check.answers("clear again", 0, x::clear);
        check.answers("count(2)", 0, () -> x.count(2));
        x.argument(3, 9);
        Check.put(x, "new");
        x.text();
        check.due("those since", printed(x, "%s %s"), "9 new");
        x.clear();
        check.refuses("format without arguments", java.util.NoSuchElementException.class, () -> x.format(0));
    }
}
