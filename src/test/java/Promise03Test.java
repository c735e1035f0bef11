import java.util.Map;

/** Promise 3: end. */
public final class Promise03Test {
    public static void main(String[] args) {
        Check check = new Check("Promise 3");
        keeps(check);
        bounds(check);
        refused(check);
        check.done();
    }

    private static void keeps(Check check) {
        check.sentence("The TAPE keeps its first n bytes");
        for (int n : new int[] {0, 1, 15, 16}) {
            Map<String, String> now =
                check.changes("end(" + n + ") of 16", Integer.toString(n), State::rich, x -> x.end(n), Check.TAPE);
            check.due("the tape", now.get(Check.TAPE), n + ":" + "12.5 on the tape".substring(0, n));
        }
        Subject x = new Subject().put("12345");
        x.end(2);
        check.refuses("what is cut does not come back", IllegalArgumentException.class, () -> x.end(3));
        check.answers("parse of the first two", Double.doubleToRawLongBits(12), x::parse);
        x.put("98765");
        x.end(1);
        x.append("7");
        check.answers("feed goes on where end has cut", Double.doubleToRawLongBits(97), x::parse);
    }

    private static void bounds(Check check) {
        check.sentence("n 0 .. its length");
        Subject none = new Subject();
        check.answers("end(0) of 0", 0, () -> none.end(0));
        check.refuses("end(1) of 0", IllegalArgumentException.class, () -> none.end(1));
        check.refuses("end(-1) of 0", IllegalArgumentException.class, () -> none.end(-1));
        Subject x = new Subject();
        x.feed(1, 2, 3, 4, 5);
        check.refuses("end(21) of 20", IllegalArgumentException.class, () -> x.end(21));
        check.answers("end(20) of 20", 20, () -> x.end(20));
        check.answers("end(19) of 20", 19, () -> x.end(19));
        check.refuses("end(20) of 19", IllegalArgumentException.class, () -> x.end(20));
        check.answers("end(1) of 19", 1, () -> x.end(1));
        check.answers("end(0) of 1", 0, () -> x.end(0));
        check.refuses("end(1) of 0", IllegalArgumentException.class, () -> x.end(1));
    }

    private static void refused(Check check) {
        check.sentence("IllegalArgumentException: a number out of range; A call that throws changes nothing");
        for (int n : new int[] {-1, 17, 18, 255, 65536, 65537, Integer.MIN_VALUE, Integer.MAX_VALUE}) {
            check.refusesChanging("end(" + n + ") of 16", IllegalArgumentException.class, State::rich, x -> x.end(n));
        }
    }
}
