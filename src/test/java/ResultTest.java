/** Promises 14 and 15: word and count. */
public final class ResultTest {
    public static void main(String[] args) {
        Check check = new Check("ResultTest");
        words(check);
        counts(check);
        places(check);
        check.done();
    }

    private static void words(Check check) {
        NumberText x = new NumberText();
        check.refuses("word(0) of nothing", IndexOutOfBoundsException.class, () -> x.word(0));
        Check.put(x, "abcdefghij\u00ff\u0080");
        x.compile(0);
        x.format(0);
        check.answers("word(0)", 0x6162636465666768L, () -> x.word(0));
        check.answers("word(1)", 0x6263646566676869L, () -> x.word(1));
        check.answers("word(4)", 0x65666768696aff80L, () -> x.word(4));
        check.answers("word(5)", 0x666768696aff8000L, () -> x.word(5));
        check.answers("word(10)", 0xff80000000000000L, () -> x.word(10));
        check.answers("word(11)", 0x8000000000000000L, () -> x.word(11));
        for (int i : new int[] {-1, 12, 13, Integer.MIN_VALUE, Integer.MAX_VALUE}) {
            check.refuses("word(" + i + ")", IndexOutOfBoundsException.class, () -> x.word(i));
        }
        x.print(0);
        check.answers("zeros behind a shorter one", 0x302e300000000000L, () -> x.word(0));
        check.refuses("word(3)", IndexOutOfBoundsException.class, () -> x.word(3));
        check.answers("the result stays", 3, () -> x.count(1));
    }

    private static void counts(Check check) {
        NumberText x = new NumberText();
        for (int what : new int[] {-1, 5, Integer.MIN_VALUE, Integer.MAX_VALUE}) {
            check.refuses("count(" + what + ")", IllegalArgumentException.class, () -> x.count(what));
        }
        x.feed(1, 2, 3, 4, 5);
        check.answers("bytes of the tape", 20, () -> x.count(0));
        x.print(Double.doubleToRawLongBits(12.25));
        check.answers("bytes of the result", 5, () -> x.count(1));
        x.argument(0, 0);
        x.argument(1, 0);
        check.answers("arguments", 2, () -> x.count(2));
        x.end(0);
        x.compile(7);
        x.compile(0);
        x.compile(7);
        check.answers("formats", 2, () -> x.count(4));
        check.answers("the tape", 0, () -> x.count(0));
    }

    /** Only compile and format tell a place, and only one with a format f counts. */
    private static void places(Check check) {
        NumberText x = new NumberText();
        Check.put(x, "abc%z");
        Check.answer(() -> x.compile(0));
        check.answers("the place", 3, () -> x.count(3));
        Check.put(x, "12");
        x.parse();
        x.print(1);
        x.show(0, 1, 1);
        x.argument(3, 1);
        x.clear();
        x.feed(0, 0, 0, 0, 0);
        Check.answer(x::text);
        Check.answer(() -> x.compile(8));
        Check.answer(() -> x.compile(-1));
        Check.answer(() -> x.format(8));
        Check.answer(() -> x.format(0));
        check.answers("the place stays", 3, () -> x.count(3));
        Check.put(x, "ab%d");
        x.clear();
        x.compile(0);
        check.answers("the place of a good one", -1, () -> x.count(3));
        Check.answer(() -> x.format(0));
        check.answers("the place of what is missing", 2, () -> x.count(3));
        x.argument(4, 4);
        x.format(0);
        check.answers("the place of a good format", -1, () -> x.count(3));
        x.clear();
        x.argument(1, 1);
        Check.answer(() -> x.format(0));
        check.answers("the place of what is unfit", 2, () -> x.count(3));
        Check.put(x, "x".repeat(1001));
        Check.answer(() -> x.compile(0));
        check.answers("a format that is too long tells none", -1, () -> x.count(3));
    }
}
