/** Promise 12, and which DIRECTIVES are BARRED. */
final class Promise12Barred {
    private static final Class<IllegalStateException> BARRED = IllegalStateException.class;
    private static final String CONVERSIONS = "doxXeEfgGaAcCsSbB%n";
    private static final String FLAGS = "-#+ 0,(";
    /** The flags that are allowed, in the order of the conversions. */
    private static final String[] ALLOWED = {
        "-+ 0,(", "-#0", "-#0", "-#0", "-#+ 0(", "-#+ 0(", "-#+ 0,(", "-+ 0,(", "-+ 0,(", "-#+ 0", "-#+ 0",
        "-", "-", "-", "-", "-", "-", "-", "",
    };

    private Promise12Barred() {
    }

    static void all(Check check) {
        twice(check);
        both(check);
        withoutWidth(check);
        precisions(check);
        lineEnd(check);
        percent(check);
        flags(check);
        combinations(check);
    }

    private static void barred(Check check, String s) {
        Promise12Test.refuses(check, s, BARRED, 0);
        Promise12Test.refuses(check, "a%d" + s, BARRED, 3);
    }

    private static void twice(Check check) {
        check.sentence("BARRED: a flag twice");
        for (char flag : FLAGS.toCharArray()) {
            barred(check, "%" + flag + flag + "9f");
            barred(check, "%1$" + flag + flag + "9.1f");
            Promise12Test.compiles(check, "%" + flag + "9f", 1);
        }
        barred(check, "%+,+9f");
        barred(check, "%-#-9f");
        barred(check, "%0,09f");
        barred(check, "%+,(#+9f");
        barred(check, "%+++9f");
        Promise12Test.compiles(check, "%+d%+d", 2);
    }

    private static void both(Check check) {
        check.sentence("BARRED: - and 0 both, + and blank both");
        barred(check, "%-09f");
        barred(check, "%0-9f");
        barred(check, "%-,09d");
        barred(check, "%+ 9f");
        barred(check, "% +9f");
        barred(check, "%+,( 9d");
        Promise12Test.compiles(check, "%-+9f", 1);
        Promise12Test.compiles(check, "%- 9f", 1);
        Promise12Test.compiles(check, "%0+9f", 1);
        Promise12Test.compiles(check, "%0 9f", 1);
        Promise12Test.compiles(check, "%+(9f", 1);
    }

    private static void withoutWidth(Check check) {
        check.sentence("BARRED: - or 0 without width");
        for (char c : "doxXeEfgGaAcCsSbB%".toCharArray()) {
            barred(check, "%-" + c);
            Promise12Test.compiles(check, "%-1" + c, 1);
        }
        for (char c : "doxXeEfgGaA".toCharArray()) {
            barred(check, "%0" + c);
            Promise12Test.compiles(check, "%01" + c, 1);
        }
        for (char c : "eEfgGaA".toCharArray()) {
            barred(check, "%-.3" + c);
            barred(check, "%0.3" + c);
            barred(check, "%1$-.3" + c);
        }
        barred(check, "%-.3s");
        barred(check, "%1$-s");
        barred(check, "%<0d");
    }

    private static void precisions(Check check) {
        check.sentence("BARRED: a precision with d o x X c C %");
        for (char c : "doxXcC%".toCharArray()) {
            barred(check, "%.0" + c);
            barred(check, "%.3" + c);
            barred(check, "%9.3" + c);
            barred(check, "%.9999" + c);
        }
        for (char c : "eEfgGaAsSbB".toCharArray()) {
            Promise12Test.compiles(check, "%.0" + c, 1);
            Promise12Test.compiles(check, "%9.3" + c, 1);
            Promise12Test.compiles(check, "%.9999" + c, 1);
        }
    }

    private static void lineEnd(Check check) {
        check.sentence("BARRED: a width, precision, flag or index (< is one) with n");
        Promise12Test.compiles(check, "%n", 1);
        for (String s : new String[] {"1", "9999", ".0", ".3", "9.3", "1$", "9999$", "<", "-9", "09", "1$9"}) {
            barred(check, "%" + s + "n");
        }
        for (char flag : FLAGS.toCharArray()) {
            barred(check, "%" + flag + "n");
        }
    }

    private static void percent(Check check) {
        check.sentence("BARRED: a precision, index or flag but - with %");
        for (String s : new String[] {"", "1", "9999", "-1", "-9999"}) {
            Promise12Test.compiles(check, "%" + s + "%", 1);
        }
        for (String s : new String[] {".0", ".3", "9.3", "-9.3", "1$", "1$9", "9999$", "<", "<9", "1$-9", "-", "09", "0"}) {
            barred(check, "%" + s + "%");
        }
        for (char flag : "#+ 0,(".toCharArray()) {
            barred(check, "%" + flag + "%");
            barred(check, "%" + flag + "9%");
            barred(check, "%-" + flag + "9%");
        }
    }

    private static void flags(Check check) {
        check.sentence("BARRED: flags but: - + blank 0 , ( with d; - # 0 with o x X; - # + blank 0 ( with e E; all with f;"
            + " all but # with g G; - # + blank 0 with a A; - with c C s S b B");
        for (int i = 0; i < ALLOWED.length; i++) {
            char c = CONVERSIONS.charAt(i);
            for (char flag : FLAGS.toCharArray()) {
                if (ALLOWED[i].indexOf(flag) >= 0) {
                    Promise12Test.compiles(check, "%" + flag + "9" + c, 1);
                    Promise12Test.compiles(check, c == '%' ? "%" + flag + "9%" : "%<" + flag + "9" + c, 1);
                } else {
                    barred(check, "%" + flag + "9" + c);
                    barred(check, "%" + flag + c);
                }
            }
        }
    }

    /** Every conversion with every set of flags, with and without width, precision and index. */
    private static void combinations(Check check) {
        Model model = new Model();
        Subject x = new Subject();
        for (int set = 0; set < 128; set++) {
            StringBuilder some = new StringBuilder();
            for (int i = 0; i < 7; i++) {
                some.append((set >> i & 1) != 0 ? FLAGS.charAt(i) : "");
            }
            for (String index : new String[] {"", "1$", "<"}) {
                for (String size : new String[] {"", "9", ".3", "9.3"}) {
                    for (char c : CONVERSIONS.toCharArray()) {
                        String s = "%" + index + some + size + c;
                        x = x.calls() > Subject.PROMISED_CALLS - 20 ? new Subject() : x;
                        Subject y = x.put(s);
                        model.tape = s;
                        check.due("compile of [" + s + "]", Check.answer(() -> y.compile(0)),
                            Check.answer(() -> model.compile(0)));
                    }
                }
            }
        }
    }
}
