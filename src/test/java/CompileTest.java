/** Promise 12: compile. */
public final class CompileTest {
    /** Each with the place of the % that is no directive. */
    private static final Object[][] WRONG = {
        {"%", 0}, {"a%", 1}, {"%q", 0}, {"%5", 0}, {"%.d", 0}, {"%-", 0}, {"%$d", 0}, {"%0$d", 0}, {"%1$", 0},
        {"%10000d", 0}, {"%.10000f", 0}, {"%10000$d", 0}, {"%99999999999999999999d", 0}, {"%.99999999999999999999f", 0},
        {"%4294967297$d", 0}, {"%1$2$d", 0}, {"%<<d", 0}, {"%1$<d", 0}, {"%<1$d", 0}, {"%05$d", 0}, {"%l", 0},
        {"%D", 0}, {"%F", 0}, {"%O", 0}, {"%N", 0}, {"%h", 0}, {"%t", 0}, {"%5-d", 0}, {"%5 d", 0}, {"%5,d", 0},
        {"%.3.4f", 0}, {"%.-3f", 0}, {"%5.f", 0}, {"%d%%%n %", 7}, {"%%%", 2}, {"%--5d %k", 6}, {"%d%Y%++d%K", 2},
        {"%\u00e4", 0}, {"%\0", 0}, {"%-5", 0}, {"%1$-05.", 0}, {"%5$5$d", 0}, {"%-5<d", 0}, {"%-1$d", 0},
    };
    private static final Object[][] BARRED = {
        {"%--5d", 0}, {"%++d", 0}, {"%##x", 0}, {"%  d", 0}, {"%005d", 0}, {"%,,d", 0}, {"%((d", 0}, {"%-05d", 0},
        {"%0-5d", 0}, {"%+ d", 0}, {"% +d", 0}, {"%-d", 0}, {"%0d", 0}, {"%-s", 0}, {"%-%", 0}, {"%-.3s", 0},
        {"%.3d", 0}, {"%.0o", 0}, {"%.1x", 0}, {"%.1X", 0}, {"%.1c", 0}, {"%.1C", 0}, {"%.1%", 0},
        {"%5n", 0}, {"%.1n", 0}, {"%-n", 0}, {"%-5n", 0}, {"%#n", 0}, {"%1$n", 0}, {"%<n", 0},
        {"%1$%", 0}, {"%<%", 0}, {"%05%", 0}, {"%+5%", 0}, {"% %", 0}, {"%,%", 0}, {"%(%", 0}, {"%#%", 0},
        {"%#d", 0}, {"%+o", 0}, {"% o", 0}, {"%,o", 0}, {"%(o", 0}, {"%+x", 0}, {"%,x", 0}, {"%(X", 0}, {"% X", 0},
        {"%,e", 0}, {"%,E", 0}, {"%#g", 0}, {"%#G", 0}, {"%,a", 0}, {"%(a", 0}, {"%(A", 0},
        {"%#c", 0}, {"%05c", 0}, {"%+C", 0}, {"%,c", 0}, {"%05s", 0}, {"%#s", 0}, {"%+s", 0}, {"% S", 0}, {"%(s", 0},
        {"%05b", 0}, {"%#b", 0}, {"%,B", 0}, {"a%d %-d", 4}, {"%d%n%+x%-d", 4}, {"%%%5n", 2},
    };
    private static final Object[][] GOOD = {
        {"", 0}, {"plain", 0}, {"%%", 1}, {"%n", 1}, {"%d%d", 2}, {"%-+,(9999d", 1}, {"%+0,(9d", 1}, {"% 0,(9d", 1},
        {"%9999d", 1}, {"%.9999f", 1}, {"%9999$d", 1}, {"%.0000000000000000012f", 1}, {"%#-9o%#09x%#09X", 3},
        {"%-#+(9.3e%# 0(9.3E", 2}, {"%-#+,(9.3f%# 0,(9.3f", 2}, {"%-+,(9.3g% 0,(9.3G", 2}, {"%-#+9.3a%# 09.3A", 2},
        {"%-9c%-9C%-9.3s%-9.3S%-9.3b%-9.3B%-9%", 7}, {"%<s%1$s%<5d%1$05d", 4}, {"%5%%-5%%n", 3}, {"%.0s%.3b", 2},
        {"% d%%", 2}, {"\0\u00ff%s\u00ff", 1}, {"$<-#+ 0,(", 0},
    };

    public static void main(String[] args) {
        Check check = new Check("CompileTest");
        good(check);
        refused(check, WRONG, UnsupportedOperationException.class);
        refused(check, BARRED, IllegalStateException.class);
        lengths(check);
        numbers(check);
        keepsOld(check);
        check.done();
    }

    private static void good(Check check) {
        for (Object[] row : GOOD) {
            NumberText x = new NumberText();
            Check.put(x, (String) row[0]);
            check.answers("compile of [" + row[0] + "]", ((Integer) row[1]).longValue(), () -> x.compile(3));
            check.answers("the place behind it", -1, () -> x.count(3));
            check.answers("the tape behind it", 0, () -> x.count(0));
            check.answers("formats behind it", 1, () -> x.count(4));
        }
    }

    private static void refused(Check check, Object[][] rows, Class<? extends RuntimeException> due) {
        for (Object[] row : rows) {
            NumberText x = new NumberText();
            Check.put(x, (String) row[0]);
            check.refuses("compile of [" + row[0] + "]", due, () -> x.compile(7));
            check.answers("the place in [" + row[0] + "]", ((Integer) row[1]).longValue(), () -> x.count(3));
            check.answers("the tape behind it", 0, () -> x.count(0));
            check.answers("formats behind it", 0, () -> x.count(4));
            check.refuses("format of it", IllegalStateException.class, () -> x.format(7));
            check.answers("the place stays", ((Integer) row[1]).longValue(), () -> x.count(3));
            x.compile(0);
            check.answers("the place behind a good one", -1, () -> x.count(3));
        }
    }

    private static void lengths(Check check) {
        NumberText x = new NumberText();
        Check.put(x, "%n".repeat(500));
        check.answers("compile of 1000 bytes", 500, () -> x.compile(0));
        check.answers("format of it", 500, () -> x.format(0));
        Check.put(x, "%");
        check.refuses("compile", UnsupportedOperationException.class, () -> x.compile(1));
        Check.put(x, "%".repeat(1001));
        check.refuses("compile of 1001 bytes", IndexOutOfBoundsException.class, () -> x.compile(0));
        check.answers("the place: none is told", -1, () -> x.count(3));
        check.answers("the tape behind it", 0, () -> x.count(0));
        check.answers("format 0 stays", 500, () -> x.format(0));
    }

    private static void numbers(Check check) {
        NumberText x = new NumberText();
        Check.put(x, "%");
        check.refuses("compile", UnsupportedOperationException.class, () -> x.compile(1));
        for (int f : new int[] {-1, 8, Integer.MIN_VALUE, Integer.MAX_VALUE}) {
            Check.put(x, "%d%d");
            check.refuses("compile(" + f + ")", IllegalArgumentException.class, () -> x.compile(f));
            check.answers("the tape stays", 4, () -> x.count(0));
            check.answers("the place stays", 0, () -> x.count(3));
        }
        for (int f = 0; f < 8; f++) {
            int g = f;
            Check.put(x, "" + f);
            check.answers("compile(" + f + ")", 0, () -> x.compile(g));
            check.answers("formats", f + 1, () -> x.count(4));
        }
        for (int f = 0; f < 8; f++) {
            x.format(f);
            check.due("format " + f, Check.result(x), "" + f);
        }
    }

    private static void keepsOld(Check check) {
        NumberText x = new NumberText();
        Check.put(x, "old %%");
        x.compile(2);
        Check.put(x, "new %d %k");
        check.refuses("a wrong one", UnsupportedOperationException.class, () -> x.compile(2));
        Check.put(x, "newer %-d");
        check.refuses("a barred one", IllegalStateException.class, () -> x.compile(2));
        x.format(2);
        check.due("the old one stays", Check.result(x), "old %");
        Check.put(x, "newest");
        x.compile(2);
        x.format(2);
        check.due("a good one takes its place", Check.result(x), "newest");
        check.answers("formats", 1, () -> x.count(4));
    }
}
