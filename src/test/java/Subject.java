/** An object under test that counts its calls, since nothing is promised behind the 512th. */
final class Subject {
    static final int PROMISED_CALLS = 512;

    private final NumberText x = new NumberText();
    private int calls = 0;
    private boolean free = false;

    /** For the few bounds that no 512 calls can reach. */
    Subject beyondThePromise() {
        free = true;
        return this;
    }

    int calls() {
        return calls;
    }

    private NumberText next() {
        calls++;
        if (calls > PROMISED_CALLS && !free) {
            throw new AssertionError("a test leans on a call behind the 512th");
        }
        return x;
    }

    int feed(int a, int b, int c, int d, int e) {
        return next().feed(a, b, c, d, e);
    }

    int end(int n) {
        return next().end(n);
    }

    int print(long bits) {
        return next().print(bits);
    }

    int printFloat(int bits) {
        return next().printFloat(bits);
    }

    long parse() {
        return next().parse();
    }

    int parseFloat() {
        return next().parseFloat();
    }

    int show(int kind, int p, long bits) {
        return next().show(kind, p, bits);
    }

    int argument(int kind, long v) {
        return next().argument(kind, v);
    }

    int text() {
        return next().text();
    }

    int clear() {
        return next().clear();
    }

    int compile(int f) {
        return next().compile(f);
    }

    int format(int f) {
        return next().format(f);
    }

    long word(int i) {
        return next().word(i);
    }

    int count(int what) {
        return next().count(what);
    }

    // ---- what the tests do often ----

    /** The tape is this text then, whatever was on it. */
    Subject put(String s) {
        end(0);
        return append(s);
    }

    Subject append(String s) {
        int length = count(0);
        for (int i = 0; i < s.length(); i += 20) {
            int[] five = new int[5];
            for (int j = 0; j < 20 && i + j < s.length(); j++) {
                five[j / 4] |= byteOf(s.charAt(i + j)) << (24 - j % 4 * 8);
            }
            feed(five[0], five[1], five[2], five[3], five[4]);
        }
        end(length + s.length());
        return this;
    }

    private static int byteOf(char c) {
        if (c > 255) {
            throw new AssertionError("a test feeds what is no byte");
        }
        return c;
    }

    String result() {
        return part(0, count(1));
    }

    /** The bytes of the result from one place up to another. */
    String part(int from, int to) {
        StringBuilder b = new StringBuilder();
        for (int i = from; i < to; i += 8) {
            long word = word(i);
            for (int j = 0; j < 8 && i + j < to; j++) {
                b.append((char) (word >>> (56 - 8 * j) & 255));
            }
        }
        return b.toString();
    }

    /** The text as format f. */
    Subject withFormat(int f, String s) {
        put(s).compile(f);
        return this;
    }

    /** One more argument of the kind that the value's class says; null is none. */
    Subject with(Object... values) {
        for (Object v : values) {
            add(v);
        }
        return this;
    }

    private void add(Object v) {
        if (v == null) {
            argument(0, 1);
        } else if (v instanceof Boolean) {
            argument(1, (Boolean) v ? 1 : 0);
        } else if (v instanceof Character) {
            argument(2, (Character) v);
        } else if (v instanceof Integer) {
            argument(3, (Integer) v);
        } else if (v instanceof Long) {
            argument(4, (Long) v);
        } else if (v instanceof Float) {
            argument(5, Float.floatToRawIntBits((Float) v));
        } else if (v instanceof Double) {
            argument(6, Double.doubleToRawLongBits((Double) v));
        } else {
            put((String) v).text();
        }
    }
}
