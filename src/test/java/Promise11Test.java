import java.util.Map;
import java.util.NoSuchElementException;

/** Promise 11: clear. */
public final class Promise11Test {
    private static Check check = new Check("Promise 11");

    public static void main(String[] args) {
        none();
        answer();
        later();
        check.done();
    }

    private static void none() {
        check.sentence("No ARGUMENTS.");
        Map<String, String> now = check.changes("clear", "8", State::rich, Subject::clear, Check.ARGUMENTS);
        check.due("the arguments", now.get(Check.ARGUMENTS), "0:");
        Subject x = new Subject().withFormat(0, "%s").with(1);
        x.clear();
        check.refuses("format behind it", NoSuchElementException.class, () -> x.format(0));
        check.answers("the place", 0, () -> x.count(3));
        x.withFormat(0, "%1$s%16$s");
        check.refuses("format behind it", NoSuchElementException.class, () -> x.format(0));
    }

    private static void answer() {
        check.sentence("Answers how many there were.");
        for (int many = 0; many <= 16; many++) {
            Subject x = new Subject();
            for (int i = 0; i < many; i++) {
                x.argument(i % 7, 65);
            }
            check.answers("clear of " + many, many, x::clear);
            check.answers("count(2)", 0, () -> x.count(2));
            check.answers("clear again", 0, x::clear);
        }
        Subject x = new Subject().with("a text", 1);
        check.refuses("a refused one does not count", UnsupportedOperationException.class, () -> x.argument(2, 31));
        check.answers("clear", 2, x::clear);
    }

    private static void later() {
        check.sentence("No ARGUMENTS: those that come then are the first ones");
        Subject x = new Subject().with("a longer text", 'c', 1.5);
        x.clear();
        check.answers("one more", 1, () -> x.argument(3, 9));
        x.with("new", null);
        x.withFormat(0, "%s %s %s").format(0);
        check.due("those since", x.result(), "9 new null");
        x.clear();
        for (int i = 1; i <= 16; i++) {
            int n = i;
            check.answers("argument " + i, i, () -> x.argument(3, n));
        }
        check.refuses("argument 17", IndexOutOfBoundsException.class, () -> x.argument(3, 17));
    }
}
