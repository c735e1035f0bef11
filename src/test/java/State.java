import java.util.LinkedHashMap;
import java.util.Map;

/** All that calls can tell of an object, part by part; telling it uses the object up. */
final class State {
    /** Bytes of a result that are told: more would need too many calls. */
    private static final int TOLD = 200;

    private State() {
    }

    /** An object with something in each of its parts, so that a change of any of them is seen. */
    static Subject rich() {
        Subject x = new Subject();
        x.withFormat(1, "one %s, %s").withFormat(6, "six %2$s%n").withFormat(7, "seven");
        x.with(42, -7L, "text", null, 'c', true, 1.5f, -0.25);
        x.print(Double.doubleToRawLongBits(1234.5));
        x.put("abc%");
        Check.answer(() -> x.compile(1));
        return x.put("12.5 on the tape");
    }

    /** Format 0 is used to see the rest: of it only that it is there is told. */
    static Map<String, String> of(Subject x) {
        Map<String, String> parts = new LinkedHashMap<>();
        parts.put(Check.PLACE, Integer.toString(x.count(3)));
        parts.put(Check.RESULT, x.result());
        StringBuilder formats = new StringBuilder().append(x.count(4));
        formats.append(printed(x, 0).equals(Check.thrown(IllegalStateException.class)) ? "" : " with 0");
        parts.put(Check.TAPE, x.count(0) + ":" + tape(x));
        parts.put(Check.ARGUMENTS, x.count(2) + ":" + arguments(x));
        x.clear();
        x.with("A", "B");
        for (int f = 1; f < 8; f++) {
            formats.append('|').append(printed(x, f));
        }
        parts.put(Check.FORMATS, formats.toString());
        return parts;
    }

    /** A tape without % comes out as it is when it is a format. */
    private static String tape(Subject x) {
        if (x.count(0) == 0) {
            return "";
        }
        String compiled = Check.answer(() -> x.compile(0));
        return compiled.equals("0") ? printed(x, 0) : compiled;
    }

    private static String arguments(Subject x) {
        int many = x.count(2);
        StringBuilder all = new StringBuilder();
        for (int i = 1; i <= many; i++) {
            all.append('%').append(i).append("$s|");
        }
        return printed(x.withFormat(0, all.toString()), 0);
    }

    private static String printed(Subject x, int f) {
        String answer = Check.answer(() -> x.format(f));
        if (answer.startsWith("throws")) {
            return answer;
        }
        int length = x.count(1);
        return length <= TOLD ? x.part(0, length) : x.part(0, TOLD) + " .. " + length;
    }
}
