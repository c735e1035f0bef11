/** Promises 1 to 3: a new object, feed and end. */
public final class TapeTest {
    public static void main(String[] args) {
        Check check = new Check("TapeTest");
        newObject(check);
        feed(check);
        end(check);
        check.done();
    }

    private static void newObject(Check check) {
        NumberText x = new NumberText();
        int[] due = {0, 0, 0, -1, 0};
        for (int what = 0; what < due.length; what++) {
            int w = what;
            check.answers("count(" + what + ") of a new object", due[what], () -> x.count(w));
        }
        check.refuses("word(0) of a new object", IndexOutOfBoundsException.class, () -> x.word(0));
        for (int f = 0; f < 8; f++) {
            int g = f;
            check.refuses("format of a new object", IllegalStateException.class, () -> x.format(g));
        }
        check.answers("clear of a new object", 0, x::clear);
        check.refuses("parse of a new object", UnsupportedOperationException.class, x::parse);
    }

    private static void feed(Check check) {
        NumberText x = new NumberText();
        check.answers("feed", 20, () -> x.feed(0x61626364, 0x65666768, 0x696a6b6c, 0x6d6e6f70, 0x7172ff80));
        check.answers("feed", 40, () -> x.feed(0x41424344, 0, 0, 0, 0));
        check.answers("end", 24, () -> x.end(24));
        check.answers("text", 1, x::text);
        Check.put(x, "%s");
        x.compile(0);
        check.answers("format", 24, () -> x.format(0));
        check.due("the bytes, the highest of each int first", Check.result(x), "abcdefghijklmnopqr\u00ff\u0080ABCD");
        // beyond 512 calls all is free, but the limit of the tape can be reached only there
        NumberText full = new NumberText();
        for (int i = 0; i < 3276; i++) {
            full.feed(0, 0, 0, 0, 0);
        }
        check.answers("count(0)", 65520, () -> full.count(0));
        check.refuses("feed beyond 65536", IndexOutOfBoundsException.class, () -> full.feed(1, 2, 3, 4, 5));
        check.answers("count(0) stays", 65520, () -> full.count(0));
        full.end(65516);
        check.answers("feed up to 65536", 65536, () -> full.feed(1, 2, 3, 4, 5));
    }

    private static void end(Check check) {
        NumberText x = new NumberText();
        check.answers("end(0)", 0, () -> x.end(0));
        check.refuses("end(1) of none", IllegalArgumentException.class, () -> x.end(1));
        Check.put(x, "12345");
        check.answers("count(0)", 5, () -> x.count(0));
        check.refuses("end(6) of 5", IllegalArgumentException.class, () -> x.end(6));
        check.refuses("end(-1)", IllegalArgumentException.class, () -> x.end(-1));
        check.answers("count(0) stays", 5, () -> x.count(0));
        check.answers("end(5) of 5", 5, () -> x.end(5));
        check.answers("end(2)", 2, () -> x.end(2));
        check.answers("parse of the first two", Double.doubleToRawLongBits(12), x::parse);
        check.answers("count(0) behind it", 0, () -> x.count(0));
        Check.append(x, "7");
        Check.append(x, "8");
        check.answers("feed goes on where end has cut", Double.doubleToRawLongBits(78), x::parse);
    }
}
