/** Promise 1: a new object. */
public final class Promise01Test {
    public static void main(String[] args) {
        Check check = new Check("Promise 1");
        empty(check);
        ownMemory(check);
        manyCalls(check);
        check.done();
    }

    /** Each is the first call of an object of its own. */
    private static void empty(Check check) {
        check.sentence("THE TAPE, THE RESULT and the ARGUMENTS are empty, there are no FORMATS.");
        int[] due = {0, 0, 0, -1, 0};
        for (int what = 0; what < due.length; what++) {
            int w = what;
            check.answers("count(" + what + ")", due[what], () -> new Subject().count(w));
        }
        check.answers("end(0)", 0, () -> new Subject().end(0));
        check.refuses("end(1)", IllegalArgumentException.class, () -> new Subject().end(1));
        check.answers("feed", 20, () -> new Subject().feed(0, 0, 0, 0, 0));
        check.refuses("parse", UnsupportedOperationException.class, () -> new Subject().parse());
        check.refuses("parseFloat", UnsupportedOperationException.class, () -> new Subject().parseFloat());
        check.refuses("word(0)", IndexOutOfBoundsException.class, () -> new Subject().word(0));
        check.answers("clear", 0, () -> new Subject().clear());
        check.answers("argument", 1, () -> new Subject().argument(0, 0));
        check.answers("text of no bytes", 1, () -> new Subject().text());
        for (int f = 0; f < 8; f++) {
            int g = f;
            check.refuses("format(" + f + ")", IllegalStateException.class, () -> new Subject().format(g));
            check.answers("compile(" + f + ") of no bytes", 0, () -> new Subject().compile(g));
        }
        Subject x = new Subject();
        x.compile(3);
        check.answers("format of no bytes", 0, () -> x.format(3));
        check.answers("its bytes", 0, () -> x.count(1));
    }

    private static void ownMemory(Check check) {
        check.sentence("All memory is the class's own.");
        Subject one = new Subject();
        Subject two = new Subject();
        one.withFormat(1, "one %d").withFormat(2, "only here").with(1);
        two.withFormat(1, "two %d%%").with(2, 3);
        one.put("11");
        two.put("222.5");
        one.print(1);
        check.answers("count(4) of one", 2, () -> one.count(4));
        check.answers("count(4) of the other", 1, () -> two.count(4));
        check.answers("clear of one", 1, one::clear);
        check.answers("count(2) of the other", 2, () -> two.count(2));
        check.answers("count(1) of the other", 0, () -> two.count(1));
        check.answers("parse of one", Double.doubleToRawLongBits(11), one::parse);
        check.answers("parse of the other", Double.doubleToRawLongBits(222.5), two::parse);
        two.format(1);
        one.put("%");
        check.refuses("compile of one", UnsupportedOperationException.class, () -> one.compile(1));
        check.answers("the place of the other", -1, () -> two.count(3));
        check.due("the result of the other", two.result(), "two 2%");
        check.due("the result of one", one.result(), "4.9E-324");
        check.due("an object made later", State.of(new Subject()).toString(), "{place=-1, result=, tape=0:, arguments=0:,"
            + " formats=0" + "|throws.IllegalStateException".repeat(7) + "}");
    }

    private static void manyCalls(Check check) {
        check.sentence("An object is used for at most 512 calls after it has been made");
        Subject x = new Subject();
        for (int i = 1; i < Subject.PROMISED_CALLS; i++) {
            x.feed(0x31313131, 0x31313131, 0x31313131, 0x31313131, 0x31313131);
        }
        check.answers("the 512th feed", 20 * Subject.PROMISED_CALLS, () -> x.feed(0, 0, 0, 0, 0));
        check.due("calls", x.calls(), Subject.PROMISED_CALLS);
        Subject y = new Subject();
        for (int i = 1; i < Subject.PROMISED_CALLS; i++) {
            y.show(1, 1200, -2L - ((long) i << 40));
        }
        check.answers("the 512th show", 1511, () -> y.show(1, 1200, 0xffefffffffffffffL));
        Subject z = new Subject();
        z.withFormat(0, "%1$9999.9999f".repeat(3)).with(0x1p-1074);
        for (int i = z.calls() + 1; i < Subject.PROMISED_CALLS; i++) {
            z.format(0);
        }
        check.answers("the 512th call: format", 30003, () -> z.format(0));
        check.due("calls", z.calls(), Subject.PROMISED_CALLS);
    }
}
