/** Promise 8: show. */
public final class ShowTest {
    private static final int E = 0;
    private static final int F = 1;
    private static final int G = 2;

    private static NumberText x = new NumberText();
    private static int shown = 0;

    public static void main(String[] args) {
        Check check = new Check("ShowTest");
        scientific(check);
        fixed(check);
        general(check);
        longOnes(check);
        wrong(check);
        check.done();
    }

    private static void shows(Check check, int kind, int p, double v, String due) {
        if (++shown % 20 == 0) {
            x = new NumberText();
        }
        String told = "show(" + kind + ", " + p + ", " + v + ")";
        check.answers(told, due.length(), () -> x.show(kind, p, Double.doubleToRawLongBits(v)));
        check.due(told, Check.result(x), due);
    }

    private static void scientific(Check check) {
        shows(check, E, 6, 0, "0.000000e+00");
        shows(check, E, 0, 0, "0e+00");
        shows(check, E, 2, -0.0, "-0.00e+00");
        shows(check, E, 0, 9.5, "1e+01");
        shows(check, E, 0, 8.5, "9e+00");
        shows(check, E, 0, 2.5, "3e+00");
        shows(check, E, 1, 1.25, "1.3e+00");
        shows(check, E, 1, -1.25, "-1.3e+00");
        shows(check, E, 1, 1.15, "1.1e+00");
        shows(check, E, 3, 1e100, "1.000e+100");
        shows(check, E, 2, Double.MIN_VALUE, "4.94e-324");
        shows(check, E, 2, 9.999e99, "1.00e+100");
        shows(check, E, 2, 9.999e-10, "1.00e-09");
        shows(check, E, 5, Double.NaN, "NaN");
        shows(check, E, 5, Double.POSITIVE_INFINITY, "Infinity");
        shows(check, E, 5, Double.NEGATIVE_INFINITY, "-Infinity");
    }

    private static void fixed(Check check) {
        shows(check, F, 0, 0.5, "1");
        shows(check, F, 0, 0.49999999999999994, "0");
        shows(check, F, 0, 1.5, "2");
        shows(check, F, 0, 2.5, "3");
        shows(check, F, 0, -0.4, "-0");
        shows(check, F, 3, 0, "0.000");
        shows(check, F, 2, 999.995, "1000.00");
        shows(check, F, 2, 0.005, "0.01");
        shows(check, F, 2, 0.004, "0.00");
        shows(check, F, 1, 0.05, "0.1");
        shows(check, F, 1, 0.25, "0.3");
        shows(check, F, 1, 0.35, "0.3");
        shows(check, F, 20, 0.1, "0.10000000000000000555");
        shows(check, F, 3, 1e23, "99999999999999991611392.000");
        shows(check, F, 0, 1e-300, "0");
        shows(check, F, 2, Double.NaN, "NaN");
    }

    private static void general(Check check) {
        shows(check, G, 6, 0, "0.00000");
        shows(check, G, 1, 0, "0");
        shows(check, G, 0, 0, "0");
        shows(check, G, 6, -0.0, "-0.00000");
        shows(check, G, 0, 0.00001, "1e-05");
        shows(check, G, 6, 0.0001, "0.000100000");
        shows(check, G, 6, 0.00009999995, "0.000100000");
        shows(check, G, 6, 0.000099999, "9.99990e-05");
        shows(check, G, 3, 999.4, "999");
        shows(check, G, 3, 999.5, "1.00e+03");
        shows(check, G, 4, 999.5, "999.5");
        shows(check, G, 3, 0.9999, "1.00");
        shows(check, G, 3, 9.999, "10.0");
        shows(check, G, 6, 123456, "123456");
        shows(check, G, 6, 1234567, "1.23457e+06");
        shows(check, G, 1, 9.5, "1e+01");
        shows(check, G, 1, 9.4, "9");
        shows(check, G, 17, 0.1, "0.10000000000000001");
        shows(check, G, 30, 1e20, "100000000000000000000.000000000");
        shows(check, G, 5, Double.NEGATIVE_INFINITY, "-Infinity");
    }

    private static void longOnes(Check check) {
        String most = new java.math.BigDecimal(Double.MAX_VALUE).toPlainString();
        shows(check, F, 0, Double.MAX_VALUE, most);
        shows(check, F, 1200, Double.MAX_VALUE, most + "." + "0".repeat(1200));
        String least = new java.math.BigDecimal(Double.MIN_VALUE).toPlainString();
        shows(check, F, 1074, Double.MIN_VALUE, least);
        shows(check, F, 1200, Double.MIN_VALUE, least + "0".repeat(126));
        shows(check, F, 323, Double.MIN_VALUE, "0." + "0".repeat(323));
        shows(check, F, 324, Double.MIN_VALUE, "0." + "0".repeat(323) + "5");
        String digits = least.substring(least.indexOf("494"));
        shows(check, E, 1200, Double.MIN_VALUE,
            "4." + digits.substring(1) + "0".repeat(1201 - digits.length()) + "e-324");
        shows(check, E, 1200, -Double.MAX_VALUE,
            "-1." + most.substring(1) + "0".repeat(1201 - most.length()) + "e+308");
        shows(check, G, 1200, 0.0001220703125, "0.0001220703125" + "0".repeat(1190));
    }

    private static void wrong(Check check) {
        NumberText y = new NumberText();
        y.print(0);
        int[][] bad = {{3, 0}, {-1, 0}, {0, -1}, {1, 1201}, {2, Integer.MIN_VALUE}, {Integer.MAX_VALUE, 5}};
        for (int[] b : bad) {
            check.refuses("show(" + b[0] + ", " + b[1] + ")", IllegalArgumentException.class, () -> y.show(b[0], b[1], 0));
            check.due("the result stays", Check.result(y), "0.0");
        }
    }
}
