import java.util.Arrays;
import java.util.List;
import java.util.Map;
import java.util.Objects;
import java.util.function.Supplier;

/** What all tests share: looking at answers, refusals and what they change, and counting those that are not due. */
final class Check {
    /** A call whose answer, or whose exception, is looked at. */
    interface Call {
        long run();
    }

    /** Such a call on an object that is given. */
    interface Act {
        long on(Subject x);
    }

    /** Parts of an object that a call may change. */
    static final String TAPE = "tape";
    static final String RESULT = "result";
    static final String ARGUMENTS = "arguments";
    static final String PLACE = "place";
    static final String FORMATS = "formats";

    /** Words of a long result that one object reads. */
    private static final int WORDS = 300;

    private final String name;
    private String sentence = "";
    private int wrong = 0;
    private int looked = 0;

    Check(String name) {
        this.name = name;
    }

    /** The words of the document that the answers from here on are due by. */
    void sentence(String words) {
        sentence = words;
    }

    /** The answer as a text, or throws. with the name of the exception. */
    static String answer(Call call) {
        try {
            return Long.toString(call.run());
        } catch (RuntimeException e) {
            return thrown(e.getClass());
        }
    }

    static String thrown(Class<? extends RuntimeException> e) {
        return "throws." + e.getSimpleName();
    }

    void due(String what, Object got, Object due) {
        looked++;
        if (!Objects.equals(got, due)) {
            wrong++;
            System.out.println(name + ", \"" + sentence + "\": " + what + " answered " + told(got) + ", due is "
                + told(due));
        }
    }

    static String told(Object o) {
        String s = String.valueOf(o);
        return s.length() > 300 ? s.substring(0, 150) + " .. " + s.substring(s.length() - 100) : s;
    }

    void answers(String what, long due, Call call) {
        due(what, answer(call), Long.toString(due));
    }

    void refuses(String what, Class<? extends RuntimeException> due, Call call) {
        due(what, answer(call), thrown(due));
    }

    /** The answer is due, and the call changes nothing but the parts named; answers how they are then. */
    Map<String, String> changes(String what, String due, Supplier<Subject> maker, Act act, String... parts) {
        Subject x = maker.get();
        due(what, answer(() -> act.on(x)), due);
        Map<String, String> now = State.of(x);
        Map<String, String> before = State.of(maker.get());
        List<String> changing = Arrays.asList(parts);
        for (String part : before.keySet()) {
            if (!changing.contains(part)) {
                due("the " + part + " behind " + what, now.get(part), before.get(part));
            }
        }
        return now;
    }

    Map<String, String> refusesChanging(String what, Class<? extends RuntimeException> due, Supplier<Subject> maker,
        Act act, String... parts) {
        return changes(what, thrown(due), maker, act, parts);
    }

    /** A result that is too long to be read within 512 calls: many objects, made alike, each read a part. */
    static String longResult(Supplier<Subject> maker) {
        int length = maker.get().count(1);
        StringBuilder b = new StringBuilder();
        for (int from = 0; from < length; from += 8 * WORDS) {
            b.append(maker.get().part(from, Math.min(from + 8 * WORDS, length)));
        }
        return b.toString();
    }

    void done() {
        System.out.println(name + ": " + looked + " answers, " + wrong + " not as due");
        if (wrong != 0 || looked == 0) {
            System.exit(1);
        }
    }
}
