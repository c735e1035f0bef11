import java.util.Map;

/** Promise 2: feed. */
public final class Promise02Test {
    private static final int MOST = 65536;

    public static void main(String[] args) {
        Check check = new Check("Promise 2");
        bytes(check);
        lengths(check);
        full(check);
        leavesTheRest(check);
        check.done();
    }

    private static String tapeOf(Subject x) {
        x.clear();
        x.text();
        x.withFormat(0, "%s").format(0);
        return x.result();
    }

    private static void bytes(Check check) {
        check.sentence("The 20 bytes of five ints, the highest of each first, come to the TAPE");
        Subject x = new Subject();
        x.feed(0x61626364, 0x65666768, 0x696a6b6c, 0x6d6e6f70, 0x71727374);
        check.due("the bytes", tapeOf(x), "abcdefghijklmnopqrst");
        Subject y = new Subject();
        y.feed(0, -1, 0x80000000, 0x7f, 0xff008001);
        check.due("bytes 0, 127, 128 and 255", tapeOf(y),
            "\0\0\0\0\u00ff\u00ff\u00ff\u00ff\u0080\0\0\0\0\0\0\u007f\u00ff\0\u0080\u0001");
        Subject z = new Subject();
        z.feed(0x61626364, 0x65666768, 0x696a6b6c, 0x6d6e6f70, 0x71727374);
        z.feed(0x41424344, 0x45464748, 0x494a4b4c, 0x4d4e4f50, 0x51525354);
        z.end(23);
        z.feed(0x30313233, 0x34353637, 0x38393a3b, 0x3c3d3e3f, 0x40404040);
        check.due("behind what is there", tapeOf(z), "abcdefghijklmnopqrstABC0123456789:;<=>?@@@@");
        for (int from = 0; from < 256; from += 20) {
            StringBuilder all = new StringBuilder();
            for (int i = from; i < from + 20 && i < 256; i++) {
                all.append((char) i);
            }
            check.due("all bytes from " + from, tapeOf(new Subject().put(all.toString())), all.toString());
        }
    }

    private static void lengths(Check check) {
        check.sentence("Answers its length.");
        Subject x = new Subject();
        check.answers("feed", 20, () -> x.feed(1, 2, 3, 4, 5));
        check.answers("feed", 40, () -> x.feed(1, 2, 3, 4, 5));
        x.end(7);
        check.answers("feed behind end(7)", 27, () -> x.feed(1, 2, 3, 4, 5));
        x.end(0);
        check.answers("feed behind end(0)", 20, () -> x.feed(1, 2, 3, 4, 5));
    }

    /** No 512 calls can fill the tape, so these go beyond what the document promises. */
    private static void full(Check check) {
        check.sentence("it would have more than 65536: IndexOutOfBoundsException");
        Subject x = new Subject().beyondThePromise();
        x.feed(0x31323334, 0x35363738, 0x39303132, 0x33343536, 0x37383930);
        for (int i = 1; i < MOST / 20; i++) {
            x.feed(0x20202020, 0x20202020, 0x20202020, 0x20202020, 0x20202020);
        }
        check.answers("the length", 65520, () -> x.count(0));
        check.refuses("feed at 65520", IndexOutOfBoundsException.class, () -> x.feed(-1, -1, -1, -1, -1));
        check.answers("the length stays", 65520, () -> x.count(0));
        x.end(65517);
        check.refuses("feed at 65517", IndexOutOfBoundsException.class, () -> x.feed(-1, -1, -1, -1, -1));
        check.answers("the length stays", 65517, () -> x.count(0));
        x.end(65516);
        check.answers("feed at 65516", MOST, () -> x.feed(0x20202020, 0x20202020, 0x20202020, 0x20202020, 0x20202020));
        check.refuses("feed at 65536", IndexOutOfBoundsException.class, () -> x.feed(-1, -1, -1, -1, -1));
        check.answers("the length stays", MOST, () -> x.count(0));
        check.answers("the bytes stay", Double.doubleToRawLongBits(12345678901234567890.0), x::parse);
        check.answers("and the tape is empty", 0, () -> x.count(0));
        check.answers("and can be fed", 20, () -> x.feed(0, 0, 0, 0, 0));
    }

    private static void leavesTheRest(Check check) {
        check.sentence("The 20 bytes of five ints ... come to the TAPE");
        Map<String, String> now = check.changes("feed", "36", State::rich,
            x -> x.feed(0x61626364, 0x65666768, 0x696a6b6c, 0x6d6e6f70, 0x71727374), Check.TAPE);
        check.due("the tape", now.get(Check.TAPE), "36:12.5 on the tapeabcdefghijklmnopqrst");
    }
}
