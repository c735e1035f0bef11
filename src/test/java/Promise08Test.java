import java.math.BigDecimal;
import java.util.Map;

/** Promise 8: show. */
public final class Promise08Test {
    private static final int E = 0;
    private static final int F = 1;
    private static final int G = 2;

    private static Check check = new Check("Promise 8");
    private static Subject x = new Subject();

    public static void main(String[] args) {
        kinds();
        precisions();
        refused();
        scientific();
        exponents();
        fixed();
        generalBounds();
        generalDigits();
        halves();
        specials();
        result();
        check.done();
    }

    private static void shows(int kind, int p, double v, String due) {
        if (x.calls() + due.length() / 8 + 5 > Subject.PROMISED_CALLS) {
            x = new Subject();
        }
        String told = "show(" + kind + ", " + p + ", " + v + ")";
        check.answers(told, due.length(), () -> x.show(kind, p, Double.doubleToRawLongBits(v)));
        check.due(told, x.result(), due);
    }

    private static void kinds() {
        check.sentence("e (kind 0), f (1), g (2)");
        shows(E, 3, 12.5, "1.250e+01");
        shows(F, 3, 12.5, "12.500");
        shows(G, 3, 12.5, "12.5");
        for (int kind : new int[] {-1, 3, 4, Integer.MIN_VALUE, Integer.MAX_VALUE}) {
            check.refusesChanging("show(" + kind + ", 1)", IllegalArgumentException.class, State::rich,
                y -> y.show(kind, 1, 0));
        }
    }

    private static void precisions() {
        check.sentence("precision p 0 .. 1200");
        String most = new BigDecimal(Double.MAX_VALUE).toPlainString();
        String least = new BigDecimal(Double.MIN_VALUE).toPlainString();
        String digits = least.substring(least.indexOf("494"));
        shows(E, 0, 12.5, "1e+01");
        shows(F, 0, 12.5, "13");
        shows(G, 0, 12.5, "1e+01");
        shows(E, 1, 12.5, "1.3e+01");
        shows(F, 1, 12.5, "12.5");
        shows(G, 1, 12.5, "1e+01");
        shows(E, 1199, 1, "1." + "0".repeat(1199) + "e+00");
        shows(E, 1200, 1, "1." + "0".repeat(1200) + "e+00");
        shows(F, 1200, -Double.MAX_VALUE, "-" + most + "." + "0".repeat(1200));
        shows(F, 1200, Double.MIN_VALUE, least + "0".repeat(126));
        shows(F, 1074, Double.MIN_VALUE, least);
        shows(G, 1200, 1, "1." + "0".repeat(1199));
        shows(G, 1200, Double.MAX_VALUE, most + "." + "0".repeat(1200 - 309));
        shows(G, 1200, 0x1p-13, "0.0001220703125" + "0".repeat(1190));
        shows(G, 1200, Double.MIN_VALUE, "4." + digits.substring(1) + "0".repeat(1200 - digits.length()) + "e-324");
        shows(E, 1200, Double.MIN_VALUE, "4." + digits.substring(1) + "0".repeat(1201 - digits.length()) + "e-324");
        shows(E, 1200, -Double.MAX_VALUE, "-1." + most.substring(1) + "0".repeat(1201 - most.length()) + "e+308");
    }

    private static void refused() {
        check.sentence("precision p 0 .. 1200; IllegalArgumentException: a number out of range");
        for (int kind = 0; kind < 3; kind++) {
            int k = kind;
            for (int p : new int[] {-1, 1201, 1202, Integer.MIN_VALUE, Integer.MAX_VALUE}) {
                check.refusesChanging("show(" + kind + ", " + p + ")", IllegalArgumentException.class, State::rich,
                    y -> y.show(k, p, 0x7ff8000000000000L));
            }
        }
        check.refusesChanging("show(3, 1201)", IllegalArgumentException.class, State::rich, y -> y.show(3, 1201, 0));
        check.refusesChanging("show(-1, -1)", IllegalArgumentException.class, State::rich, y -> y.show(-1, -1, 0));
    }

    private static void scientific() {
        check.sentence("e: p digits behind the point, one before that is 0 only for 0");
        shows(E, 6, 0, "0.000000e+00");
        shows(E, 0, 0, "0e+00");
        shows(E, 2, -0.0, "-0.00e+00");
        shows(E, 2, 0.001, "1.00e-03");
        shows(E, 0, Double.MIN_VALUE, "5e-324");
        shows(E, 2, Double.MIN_VALUE, "4.94e-324");
        shows(E, 2, Double.MAX_VALUE, "1.80e+308");
        shows(E, 0, Double.MAX_VALUE, "2e+308");
        shows(E, 0, 9.5, "1e+01");
        shows(E, 0, 9.499999999999998, "9e+00");
        shows(E, 2, 9.995, "9.99e+00");
        shows(E, 2, 9.996, "1.00e+01");
        shows(E, 20, 0.1, "1.00000000000000005551e-01");
        shows(E, 3, 0.99996, "1.000e+00");
    }

    private static void exponents() {
        check.sentence("e, + or -, two digits at least");
        shows(E, 1, 1, "1.0e+00");
        shows(E, 1, 10, "1.0e+01");
        shows(E, 1, 0.5, "5.0e-01");
        shows(E, 1, 1e9, "1.0e+09");
        shows(E, 1, 1e10, "1.0e+10");
        shows(E, 1, 1e99, "1.0e+99");
        shows(E, 1, 1e100, "1.0e+100");
        shows(E, 1, 1e-9, "1.0e-09");
        shows(E, 1, 1e-10, "1.0e-10");
        shows(E, 1, 1e-99, "1.0e-99");
        shows(E, 1, 1e-100, "1.0e-100");
        // rounding makes the exponent one greater
        shows(E, 1, 9.96e9, "1.0e+10");
        shows(E, 1, 9.96e99, "1.0e+100");
        shows(E, 1, 9.96e-11, "1.0e-10");
        shows(E, 1, 9.96e-100, "1.0e-99");
        shows(E, 1, 0.996, "1.0e+00");
    }

    private static void fixed() {
        check.sentence("f: p digits behind the point, rounded likewise");
        shows(F, 3, 0, "0.000");
        shows(F, 0, 0, "0");
        shows(F, 0, -0.0, "-0");
        shows(F, 0, -0.4, "-0");
        shows(F, 2, -0.001, "-0.00");
        shows(F, 0, 1e-300, "0");
        shows(F, 2, 0.004, "0.00");
        shows(F, 2, 0.006, "0.01");
        shows(F, 0, 9.5, "10");
        shows(F, 1, 9.96, "10.0");
        shows(F, 1, 99.96, "100.0");
        shows(F, 2, 999.996, "1000.00");
        shows(F, 20, 0.1, "0.10000000000000000555");
        shows(F, 3, 1e23, "99999999999999991611392.000");
        shows(F, 323, Double.MIN_VALUE, "0." + "0".repeat(323));
        shows(F, 324, Double.MIN_VALUE, "0." + "0".repeat(323) + "5");
        shows(F, 325, Double.MIN_VALUE, "0." + "0".repeat(323) + "49");
        shows(F, 0, Double.MAX_VALUE, new BigDecimal(Double.MAX_VALUE).toPlainString());
    }

    private static void generalBounds() {
        check.sentence("g: rounded to p digits it is 0, or 10^-4 or more and below 10^p: as f");
        shows(G, 6, 0.0001, "0.000100000");
        shows(G, 6, 0.00009999995, "0.000100000");
        shows(G, 6, 0.00009999994, "9.99999e-05");
        shows(G, 1, 0.0001, "0.0001");
        shows(G, 1, 0.000095, "0.0001");
        shows(G, 1, 0.000094, "9e-05");
        shows(G, 17, 0.0001, "0.00010000000000000000");
        shows(G, 17, Math.nextDown(0.0001), "9.9999999999999991e-05");
        shows(G, 6, 123456, "123456");
        shows(G, 6, 999999, "999999");
        shows(G, 6, 999999.4, "999999");
        shows(G, 6, 999999.5, "1.00000e+06");
        shows(G, 6, 1000000, "1.00000e+06");
        shows(G, 3, 999.4, "999");
        shows(G, 3, 999.5, "1.00e+03");
        shows(G, 3, 1000, "1.00e+03");
        shows(G, 4, 1000, "1000");
        shows(G, 1, 9.4, "9");
        shows(G, 1, 9.5, "1e+01");
        shows(G, 2, 99.5, "1.0e+02");
        shows(G, 2, 9.96, "10");
        shows(G, 309, Double.MAX_VALUE, new BigDecimal(Double.MAX_VALUE).toPlainString());
        check.sentence("else as e with p - 1");
        shows(G, 6, 1234567, "1.23457e+06");
        shows(G, 6, -0.00001, "-1.00000e-05");
        shows(G, 22, 1e22, "1." + "0".repeat(21) + "e+22");
        shows(G, 23, 1e22, "1" + "0".repeat(22));
        shows(G, 1, Double.MIN_VALUE, "5e-324");
    }

    private static void generalDigits() {
        check.sentence("as many behind the point as make p digits with those before"
            + " (for 0: p - 1; below 1 zeros before the first one do not count)");
        shows(G, 6, 0, "0.00000");
        shows(G, 2, 0, "0.0");
        shows(G, 1, 0, "0");
        shows(G, 6, -0.0, "-0.00000");
        shows(G, 3, 0.5, "0.500");
        shows(G, 3, 0.05, "0.0500");
        shows(G, 3, 0.0005, "0.000500");
        shows(G, 3, 0.9996, "1.00");
        shows(G, 3, 0.9994, "0.999");
        shows(G, 3, 9.996, "10.0");
        shows(G, 3, 1, "1.00");
        shows(G, 3, 10, "10.0");
        shows(G, 3, 100, "100");
        shows(G, 17, 0.1, "0.10000000000000001");
        shows(G, 30, 1e20, "100000000000000000000.000000000");
        check.sentence("g: p (0: 1)");
        shows(G, 0, 0, "0");
        shows(G, 0, 5, "5");
        shows(G, 0, 9.5, "1e+01");
        shows(G, 0, 0.0001, "0.0001");
        shows(G, 0, 0.00001, "1e-05");
    }

    private static void halves() {
        check.sentence("rounded from the exact value, halves up in size");
        shows(E, 0, 2.5, "3e+00");
        shows(E, 0, 3.5, "4e+00");
        shows(E, 0, -2.5, "-3e+00");
        shows(E, 1, 1.25, "1.3e+00");
        shows(E, 1, -1.25, "-1.3e+00");
        shows(E, 1, Math.nextDown(1.25), "1.2e+00");
        shows(E, 1, 1.15, "1.1e+00");
        shows(E, 1, 1.45, "1.4e+00");
        shows(F, 0, 0.5, "1");
        shows(F, 0, -0.5, "-1");
        shows(F, 0, 0.49999999999999994, "0");
        shows(F, 0, 1.5, "2");
        shows(F, 0, 2.5, "3");
        shows(F, 1, 0.25, "0.3");
        shows(F, 1, 0.35, "0.3");
        shows(F, 1, 0.05, "0.1");
        shows(F, 2, 0.125, "0.13");
        shows(F, 2, 1.005, "1.00");
        shows(F, 2, 0.005, "0.01");
        shows(F, 2, 999.995, "1000.00");
        shows(G, 1, 2.5, "3");
        shows(G, 1, -2.5, "-3");
        shows(G, 2, 1.25, "1.3");
        shows(G, 2, 0.125, "0.13");
        shows(G, 2, 1.15, "1.1");
        shows(G, 3, 0.00012350000000000001, "0.000124");
    }

    private static void specials() {
        check.sentence("NaN, Infinity: so, with signs as told (NaN: none)");
        for (int kind = 0; kind < 3; kind++) {
            for (int p : new int[] {0, 1, 1200}) {
                shows(kind, p, Double.NaN, "NaN");
                shows(kind, p, Double.longBitsToDouble(-1), "NaN");
                shows(kind, p, Double.POSITIVE_INFINITY, "Infinity");
                shows(kind, p, Double.NEGATIVE_INFINITY, "-Infinity");
            }
        }
    }

    private static void result() {
        check.sentence("THE RESULT: ... Answers how many bytes.");
        for (int kind = 0; kind < 3; kind++) {
            int k = kind;
            String[] due = {"2.5e-01", "0.3", "0.3"};
            Map<String, String> now = check.changes("show", Integer.toString(due[kind].length()), State::rich,
                y -> y.show(k, 1, Double.doubleToRawLongBits(0.25)), Check.RESULT);
            check.due("the result", now.get(Check.RESULT), due[kind]);
        }
    }
}
