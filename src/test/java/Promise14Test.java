/** Promise 14: word. */
public final class Promise14Test {
    private static final Class<IndexOutOfBoundsException> REFUSED = IndexOutOfBoundsException.class;

    private static Check check = new Check("Promise 14");

    public static void main(String[] args) {
        bytes();
        behindTheEnd();
        noneOfItsBytes();
        longest();
        stays();
        check.done();
    }

    private static Subject showing(String s) {
        Subject x = new Subject().withFormat(0, s);
        x.format(0);
        return x;
    }

    private static void bytes() {
        check.sentence("8 bytes of THE RESULT from i on, the highest first");
        Subject x = showing("abcdefghij\u00ff\u0080");
        check.answers("word(0)", 0x6162636465666768L, () -> x.word(0));
        check.answers("word(1)", 0x6263646566676869L, () -> x.word(1));
        check.answers("word(2)", 0x636465666768696aL, () -> x.word(2));
        check.answers("word(4)", 0x65666768696aff80L, () -> x.word(4));
        Subject y = showing("\u00ff\u0080\0\u007f\u0001\u00fe\u0081\u00ff\u00ff");
        check.answers("word(0) of bytes with the highest bit", 0xff80007f01fe81ffL, () -> y.word(0));
        check.answers("word(1)", 0x80007f01fe81ffffL, () -> y.word(1));
    }

    private static void behindTheEnd() {
        check.sentence("zeros behind its end");
        for (int length = 1; length <= 17; length++) {
            Subject x = showing("\u00ff".repeat(length));
            for (int i = 0; i < length; i++) {
                int from = i;
                int have = Math.min(length - i, 8);
                check.answers("word(" + i + ") of " + length, -1L << (64 - 8 * have), () -> x.word(from));
            }
            int end = length;
            check.refuses("word(" + length + ") of " + length, REFUSED, () -> x.word(end));
        }
        // what a longer result had there is not seen
        Subject x = showing("abcdefghijklmnop");
        x.print(0);
        check.answers("word(0) of 0.0", 0x302e300000000000L, () -> x.word(0));
        check.answers("word(2) of 0.0", 0x3000000000000000L, () -> x.word(2));
        check.refuses("word(3) of 0.0", REFUSED, () -> x.word(3));
    }

    private static void noneOfItsBytes() {
        check.sentence("i is none of its bytes: IndexOutOfBoundsException");
        int[] all = {-1, -8, 6, 7, 8, 16, 32767, 32768, 65536, Integer.MIN_VALUE, Integer.MAX_VALUE, Integer.MAX_VALUE - 7};
        for (int i : all) {
            check.refusesChanging("word(" + i + ") of 1234.5", REFUSED, State::rich, x -> x.word(i));
        }
        for (int i : new int[] {-1, 0, 1, 8}) {
            check.refuses("word(" + i + ") of nothing", REFUSED, () -> new Subject().word(i));
            check.refuses("word(" + i + ") of an empty result", REFUSED, () -> showing("").word(i));
        }
        Subject x = showing("abc");
        x.withFormat(0, "%s");
        Check.answer(() -> x.format(0));
        check.refuses("word(0) behind a format that is refused", REFUSED, () -> x.word(0));
    }

    private static void longest() {
        check.sentence("THE RESULT at most 32768");
        Subject x = new Subject().with("x").withFormat(0, "%1$-9999s".repeat(3) + "%1$2763sabcdefgh");
        check.answers("format", 32768, () -> x.format(0));
        check.answers("word(32760)", 0x6162636465666768L, () -> x.word(32760));
        check.answers("word(32761)", 0x6263646566676800L, () -> x.word(32761));
        check.answers("word(32767)", 0x6800000000000000L, () -> x.word(32767));
        check.refuses("word(32768)", REFUSED, () -> x.word(32768));
        check.answers("word(9998)", 0x2078202020202020L, () -> x.word(9998));
    }

    private static void stays() {
        check.sentence("word only tells");
        for (int i = 0; i < 6; i++) {
            int from = i;
            byte[] due = "1234.5\0\0\0\0\0\0\0\0".getBytes(java.nio.charset.StandardCharsets.ISO_8859_1);
            long word = java.nio.ByteBuffer.wrap(due, i, 8).getLong();
            check.changes("word(" + i + ")", Long.toString(word), State::rich, x -> x.word(from));
        }
    }
}
