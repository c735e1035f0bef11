/** Promise 13: every conversion with all flags that it allows, several widths and precisions, against the model. */
public final class Promise13MixedTest {
    private static final String FLAGS = "-#+ 0,(";
    private static final String[] WIDTHS = {"", "1", "4", "9", "23"};
    private static final String[] PRECISIONS = {"", ".0", ".1", ".3", ".8", ".12", ".13", ".20"};
    private static final Object[] WHOLES = {0, 7, -7, 65, 126, 127, 1000, -999999, Integer.MIN_VALUE, Integer.MAX_VALUE, 0L,
        -1L, 12345678L, Long.MIN_VALUE, Long.MAX_VALUE};
    private static final Object[] FLOATS = {0.0, -0.0, 1.0, -1.5, 0.1, 9.995, 999999.5, 0.00009999995, 123456.789, -1e10,
        1e-5, Double.MIN_VALUE, 1e23, 0.1f, -3.3f, Float.MIN_VALUE};
    private static final Object[] STRANGE = {Double.NaN, Double.POSITIVE_INFINITY, Float.NEGATIVE_INFINITY, null};
    private static final Object[] OTHERS = {true, false, 'a', 'Z', ' ', "", "text", "x\u00e4y\0z", 42, -42L};

    private static Check check = new Check("Promise 13, mixed");

    public static void main(String[] args) {
        check.sentence("% [digits $ | <] {flags} [width] [. precision] conversion, printed with the ARGUMENTS");
        for (Object[] some : new Object[][] {WHOLES, FLOATS, STRANGE, OTHERS}) {
            for (char c : "doxXeEfgGaAcCsSbB".toCharArray()) {
                conversion(c, some);
            }
        }
        check.done();
    }

    private static void conversion(char c, Object[] values) {
        Pair pair = null;
        for (int set = 0; set < 128; set++) {
            StringBuilder flags = new StringBuilder();
            for (int i = 0; i < FLAGS.length(); i++) {
                flags.append((set >> i & 1) != 0 ? FLAGS.charAt(i) : "");
            }
            for (String width : WIDTHS) {
                for (String precision : PRECISIONS) {
                    if (pair == null || pair.isUsedUp()) {
                        pair = new Pair(values);
                    }
                    if (pair.compile("%s" + flags + width + precision + c)) {
                        pair.printAll(values.length);
                    }
                }
            }
        }
    }

    /** An object and its model, with the same arguments. */
    private static final class Pair {
        private final Subject x = new Subject();
        private final Model model = new Model();
        private String pattern = "";

        Pair(Object[] values) {
            x.with(values);
            for (Object v : values) {
                model.add(v);
            }
        }

        boolean isUsedUp() {
            return x.calls() > Subject.PROMISED_CALLS - 250;
        }

        /** Whether it is a format, with the index 1 at the place of the s. */
        boolean compile(String s) {
            pattern = s;
            model.tape = s.replaceFirst("s", "1\\$");
            return !Check.answer(() -> model.compile(0)).startsWith("throws");
        }

        void printAll(int many) {
            StringBuilder all = new StringBuilder();
            for (int i = 1; i <= many; i++) {
                String one = pattern.replaceFirst("s", i + "\\$");
                model.tape = one;
                model.compile(1);
                // what is refused alone would hide the others
                all.append(Check.answer(() -> model.format(1)).startsWith("throws") ? "" : one + "|");
            }
            if (all.length() == 0) {
                return;
            }
            model.tape = all.toString();
            model.compile(2);
            x.withFormat(2, all.toString());
            check.due("format [" + all + "]", Check.answer(() -> x.format(2)), Check.answer(() -> model.format(2)));
            check.due("format [" + all + "]", x.result(), model.result);
        }
    }
}
