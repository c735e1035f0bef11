import java.util.NoSuchElementException;

/** Promise 15: count. */
public final class Promise15Test {
    private static final int TAPE = 0;
    private static final int RESULT = 1;
    private static final int ARGUMENTS = 2;
    private static final int PLACE = 3;
    private static final int FORMATS = 4;

    private static Check check = new Check("Promise 15");

    public static void main(String[] args) {
        bounds();
        tape();
        result();
        arguments();
        formats();
        placeOfCompile();
        placeOfFormat();
        doesNotCount();
        otherCalls();
        check.done();
    }

    private static void bounds() {
        check.sentence("what 0 .. 4");
        int[] due = {16, 6, 8, 3, 3};
        for (int what = 0; what <= 4; what++) {
            int w = what;
            check.changes("count(" + what + ")", Integer.toString(due[what]), State::rich, x -> x.count(w));
        }
        for (int what : new int[] {-1, 5, 6, 256, 260, Integer.MIN_VALUE, Integer.MAX_VALUE}) {
            check.refusesChanging("count(" + what + ")", IllegalArgumentException.class, State::rich, x -> x.count(what));
        }
    }

    private static void tape() {
        check.sentence("0 bytes of the TAPE");
        Subject x = new Subject();
        check.answers("at first", 0, () -> x.count(TAPE));
        x.feed(0, 0, 0, 0, 0);
        check.answers("behind feed", 20, () -> x.count(TAPE));
        x.end(13);
        check.answers("behind end(13)", 13, () -> x.count(TAPE));
        x.feed(0, 0, 0, 0, 0);
        check.answers("behind feed", 33, () -> x.count(TAPE));
        Check.answer(x::parse);
        check.answers("behind parse", 0, () -> x.count(TAPE));
        x.put("1");
        x.parseFloat();
        check.answers("behind parseFloat", 0, () -> x.count(TAPE));
        x.put("1").text();
        check.answers("behind text", 0, () -> x.count(TAPE));
        x.put("1").compile(0);
        check.answers("behind compile", 0, () -> x.count(TAPE));
    }

    private static void result() {
        check.sentence("1 bytes of THE RESULT");
        Subject x = new Subject();
        check.answers("at first", 0, () -> x.count(RESULT));
        x.print(Double.doubleToRawLongBits(12.25));
        check.answers("behind print", 5, () -> x.count(RESULT));
        x.printFloat(0);
        check.answers("behind printFloat", 3, () -> x.count(RESULT));
        x.show(1, 1200, 0xffefffffffffffffL);
        check.answers("behind show", 1511, () -> x.count(RESULT));
        x.withFormat(0, "%s%9999s%n");
        Check.answer(() -> x.format(0));
        check.answers("behind a format that is refused", 0, () -> x.count(RESULT));
        x.with(1, 2).format(0);
        check.answers("behind format", 10001, () -> x.count(RESULT));
    }

    private static void arguments() {
        check.sentence("2 ARGUMENTS");
        Subject x = new Subject();
        for (int i = 0; i < 16; i++) {
            int n = i;
            check.answers("behind " + i, i, () -> x.count(ARGUMENTS));
            check.answers("one more", i + 1, () -> n % 2 == 0 ? x.argument(n % 7, 40) : x.text());
        }
        check.answers("behind 16", 16, () -> x.count(ARGUMENTS));
        Check.answer(() -> x.argument(0, 0));
        Check.answer(x::text);
        check.answers("behind those that are refused", 16, () -> x.count(ARGUMENTS));
        x.clear();
        check.answers("behind clear", 0, () -> x.count(ARGUMENTS));
    }

    private static void formats() {
        check.sentence("4 FORMATS");
        Subject x = new Subject();
        int many = 0;
        for (int f : new int[] {7, 0, 3, 3, 7, 1, 2, 4, 5, 6, 0}) {
            Check.answer(() -> x.put("%").compile(f));
            int before = many;
            check.answers("behind a wrong one", before, () -> x.count(FORMATS));
            boolean isNew = Check.answer(() -> x.format(f)).startsWith("throws");
            many += isNew ? 1 : 0;
            x.put("a").compile(f);
            int now = many;
            check.answers("behind compile(" + f + ")", now, () -> x.count(FORMATS));
        }
        check.due("all", many, 8);
    }

    private static void placeOfCompile() {
        check.sentence("3 PLACE that the latest compile or format told, -1 if it told none");
        Subject x = new Subject();
        check.answers("at first", -1, () -> x.count(PLACE));
        x.put("abc%z");
        check.refuses("a wrong one", UnsupportedOperationException.class, () -> x.compile(0));
        check.answers("its place", 3, () -> x.count(PLACE));
        x.put("a%-d");
        check.refuses("a barred one", IllegalStateException.class, () -> x.compile(0));
        check.answers("its place", 1, () -> x.count(PLACE));
        x.put("a%d").compile(0);
        check.answers("a good one tells none", -1, () -> x.count(PLACE));
        x.put("%");
        check.refuses("a wrong one", UnsupportedOperationException.class, () -> x.compile(0));
        check.answers("its place", 0, () -> x.count(PLACE));
        x.put("%".repeat(1001));
        check.refuses("a long one", IndexOutOfBoundsException.class, () -> x.compile(0));
        check.answers("tells none", -1, () -> x.count(PLACE));
        x.put("a".repeat(999) + "%");
        check.refuses("the last place there is", UnsupportedOperationException.class, () -> x.compile(0));
        check.answers("its place", 999, () -> x.count(PLACE));
    }

    private static void placeOfFormat() {
        check.sentence("3 PLACE that the latest compile or format told, -1 if it told none");
        Subject x = new Subject().withFormat(0, "ab%d").withFormat(1, "%n%s%s").withFormat(2, "%9999%".repeat(4));
        check.refuses("missing", NoSuchElementException.class, () -> x.format(0));
        check.answers("its place", 2, () -> x.count(PLACE));
        x.argument(3, 4);
        check.answers("a good one", 3, () -> x.format(0));
        check.answers("tells none", -1, () -> x.count(PLACE));
        check.refuses("missing", NoSuchElementException.class, () -> x.format(1));
        check.answers("its place", 4, () -> x.count(PLACE));
        check.refuses("too long", IndexOutOfBoundsException.class, () -> x.format(2));
        check.answers("tells none", -1, () -> x.count(PLACE));
        x.clear();
        x.argument(1, 1);
        check.refuses("unfit", UnsupportedOperationException.class, () -> x.format(0));
        check.answers("its place", 2, () -> x.count(PLACE));
        x.put("%k");
        check.refuses("a wrong one", UnsupportedOperationException.class, () -> x.compile(0));
        check.answers("the latest place", 0, () -> x.count(PLACE));
        check.refuses("unfit", UnsupportedOperationException.class, () -> x.format(0));
        check.answers("the latest place", 2, () -> x.count(PLACE));
        x.put("good").compile(7);
        check.answers("a good one tells none", -1, () -> x.count(PLACE));
        x.put("%");
        check.refuses("a wrong one", UnsupportedOperationException.class, () -> x.compile(6));
        check.answers("its place", 0, () -> x.count(PLACE));
        check.answers("a format without directives", 4, () -> x.format(7));
        check.answers("tells none", -1, () -> x.count(PLACE));
        x.put("").compile(7);
        check.refuses("unfit", UnsupportedOperationException.class, () -> x.format(0));
        check.answers("its place", 2, () -> x.count(PLACE));
        check.answers("a format of no bytes", 0, () -> x.format(7));
        check.answers("tells none", -1, () -> x.count(PLACE));
    }

    private static void doesNotCount() {
        check.sentence("(one with f out of range, or without FORMAT f, does not count)");
        Subject x = new Subject().put("abc%z");
        check.refuses("a wrong one", UnsupportedOperationException.class, () -> x.compile(0));
        for (int f : new int[] {-1, 8, Integer.MIN_VALUE, Integer.MAX_VALUE}) {
            check.refuses("compile(" + f + ")", IllegalArgumentException.class, () -> x.compile(f));
            check.answers("the place stays", 3, () -> x.count(PLACE));
            check.refuses("format(" + f + ")", IllegalArgumentException.class, () -> x.format(f));
            check.answers("the place stays", 3, () -> x.count(PLACE));
        }
        for (int f = 0; f < 8; f++) {
            int g = f;
            check.refuses("format(" + f + ")", IllegalStateException.class, () -> x.format(g));
            check.answers("the place stays", 3, () -> x.count(PLACE));
        }
        x.put("good").compile(1);
        check.refuses("compile(8)", IllegalArgumentException.class, () -> x.compile(8));
        check.refuses("format(0)", IllegalStateException.class, () -> x.format(0));
        check.answers("none stays none", -1, () -> x.count(PLACE));
    }

    private static void otherCalls() {
        check.sentence("3 PLACE that the latest compile or format told: no other call changes it");
        Subject x = new Subject().put("abc%z");
        check.refuses("a wrong one", UnsupportedOperationException.class, () -> x.compile(0));
        Check.Call[] all = {() -> x.feed(0x31202020, 0, 0, 0, 0), () -> x.end(9), () -> x.print(1), () -> x.printFloat(1),
            x::parse, x::parseFloat, () -> x.show(0, 1, 1), () -> x.show(3, 1, 1), () -> x.argument(3, 1),
            () -> x.argument(9, 1), x::text, x::clear, () -> x.word(0), () -> x.word(-1), () -> x.count(0),
            () -> x.count(9), () -> x.end(-1)};
        for (int i = 0; i < all.length; i++) {
            Check.answer(all[i]);
            check.answers("behind call " + i, 3, () -> x.count(PLACE));
        }
    }
}
