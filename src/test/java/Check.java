import java.util.Objects;

/** What all tests share: feeding texts, reading the result, and counting the answers that are not due. */
final class Check {
    /** A call whose answer, or whose exception, is looked at. */
    interface Call {
        long run();
    }

    private final String name;
    private int wrong = 0;
    private int looked = 0;

    Check(String name) {
        this.name = name;
    }

    /** The answer as a text, or throws. with the name of the exception. */
    static String answer(Call call) {
        try {
            return Long.toString(call.run());
        } catch (RuntimeException e) {
            return "throws." + e.getClass().getSimpleName();
        }
    }

    void due(String what, Object got, Object due) {
        looked++;
        if (!Objects.equals(got, due)) {
            wrong++;
            System.out.println(name + ": " + what + " answered " + got + ", due is " + due);
        }
    }

    void answers(String what, long due, Call call) {
        due(what, answer(call), Long.toString(due));
    }

    void refuses(String what, Class<? extends RuntimeException> due, Call call) {
        due(what, answer(call), "throws." + due.getSimpleName());
    }

    void done() {
        System.out.println(name + ": " + looked + " answers, " + wrong + " not as due");
        if (wrong != 0 || looked == 0) {
            System.exit(1);
        }
    }

    /** The tape is this text then, whatever was on it. */
    static void put(NumberText x, String s) {
        x.end(0);
        append(x, s);
    }

    static void append(NumberText x, String s) {
        int before = x.count(0);
        for (int i = 0; i < s.length(); i += 20) {
            int[] five = new int[5];
            for (int j = 0; j < 20 && i + j < s.length(); j++) {
                five[j / 4] |= (s.charAt(i + j) & 255) << (24 - j % 4 * 8);
            }
            x.feed(five[0], five[1], five[2], five[3], five[4]);
        }
        x.end(before + s.length());
    }

    static String result(NumberText x) {
        StringBuilder b = new StringBuilder();
        int length = x.count(1);
        for (int i = 0; i < length; i += 8) {
            long word = x.word(i);
            for (int j = 0; j < 8 && i + j < length; j++) {
                b.append((char) (word >>> (56 - 8 * j) & 255));
            }
        }
        return b.toString();
    }
}
