import java.util.Map;
import java.util.function.Supplier;

/** Promise 10: text. */
public final class Promise10Test {
    private static Check check = new Check("Promise 10");

    public static void main(String[] args) {
        lengths();
        bytes();
        sixteen();
        both();
        answer();
        check.done();
    }

    private static Subject withTape(int length) {
        return State.rich().put("t".repeat(length));
    }

    private static Subject full(int length) {
        Subject x = State.rich();
        for (int i = x.count(2); i < 16; i++) {
            x.argument(3, i);
        }
        return x.put("t".repeat(length));
    }

    /** The call is refused, the tape is empty behind it, and nothing else has changed. */
    private static void refused(String what, Supplier<Subject> maker) {
        Map<String, String> now =
            check.refusesChanging(what, IndexOutOfBoundsException.class, maker, Subject::text, Check.TAPE);
        check.due("the tape behind " + what, now.get(Check.TAPE), "0:");
    }

    private static void lengths() {
        check.sentence("7 TEXT (at most 200 bytes); it is longer than 200: IndexOutOfBoundsException");
        for (int length : new int[] {0, 1, 199, 200}) {
            Subject x = new Subject().put("t".repeat(length));
            check.answers("text of " + length, 1, x::text);
            x.withFormat(0, "[%s]").format(0);
            check.due("the text", x.result(), "[" + "t".repeat(length) + "]");
        }
        for (int length : new int[] {201, 202, 256, 300, 456, 1000}) {
            refused("text of " + length, () -> withTape(length));
        }
        Subject x = new Subject().put("t".repeat(201));
        x.end(200);
        check.answers("201 cut to 200", 1, x::text);
    }

    private static void bytes() {
        check.sentence("The TAPE ... is one more ARGUMENT, a TEXT");
        StringBuilder all = new StringBuilder();
        for (char c = 0; c < 256; c++) {
            all.append(c);
        }
        Subject x = new Subject();
        x.put(all.substring(0, 128)).text();
        x.put(all.substring(128)).text();
        x.withFormat(0, "%s%s").format(0);
        check.due("all bytes", x.result(), all.toString());
        x.put("%d %n \0").text();
        x.withFormat(0, "%3$s").format(0);
        check.due("no directive", x.result(), "%d %n \0");
        // a text is the argument's own: what comes to the tape later is not seen in it
        Subject y = new Subject().put("first");
        y.text();
        y.put("second one").text();
        y.put("third");
        y.clear();
        y.text();
        y.put("%s").compile(0);
        y.format(0);
        check.due("a shorter one at the place of a longer one", y.result(), "third");
        y.put("xyz").text();
        y.withFormat(0, "%s %s").format(0);
        check.due("two", y.result(), "third xyz");
    }

    private static void sixteen() {
        check.sentence("there are 16");
        Subject x = new Subject();
        for (int i = 1; i <= 16; i++) {
            x.put("t" + i);
            check.answers("text " + i, i, x::text);
        }
        x.put("late");
        check.refuses("text 17", IndexOutOfBoundsException.class, x::text);
        check.answers("the tape", 0, () -> x.count(0));
        check.answers("count(2)", 16, () -> x.count(2));
        x.withFormat(0, "%1$s %15$s %16$s").format(0);
        check.due("the texts", x.result(), "t1 t15 t16");
        for (int length : new int[] {0, 1, 200}) {
            refused("text of " + length + " to 16", () -> full(length));
        }
        Subject y = full(3);
        y.clear();
        check.answers("behind clear", 1, y::text);
    }

    private static void both() {
        check.sentence("there are 16, or it is longer than 200; The TAPE (empty then in any case)");
        refused("text of 201 to 16", () -> full(201));
        refused("text of 500 to 16", () -> full(500));
    }

    private static void answer() {
        check.sentence("Answers how many.");
        Map<String, String> now =
            check.changes("text", "9", State::rich, Subject::text, Check.TAPE, Check.ARGUMENTS);
        check.due("the tape", now.get(Check.TAPE), "0:");
        check.due("the arguments", now.get(Check.ARGUMENTS),
            "9:42|-7|text|null|c|true|1.5|-0.25|12.5 on the tape|");
        Subject x = new Subject();
        check.answers("text of no bytes", 1, x::text);
        check.answers("and again", 2, x::text);
        check.answers("beside others", 3, () -> x.argument(0, 0));
    }
}
