/** Promises 13 and 14: report, mend. */
public final class BreaksTest {
    private static final int[] FAR = {Integer.MIN_VALUE, -1, Integer.MAX_VALUE};

    public static void main(String[] args) {
        Check.begin();
        reportsAndMends();
        needsNoStay();
        eachHasItsOwn();
        refuses();
        manyReports();
        Check.end();
    }

    private static LinkResolver two() {
        LinkResolver x = new LinkResolver();
        x.addTitle(0, 1);
        x.addTitle(0, 1);
        x.addPackage(0, 0, 15, 0);
        x.addPackage(0, 0, 15, 0);
        return x;
    }

    private static void reportsAndMends() {
        LinkResolver x = two();
        Check.same("14: mend(0, 0) without breaks", x.mend(0, 0), 0);
        Check.same("13: report(0, 0)", x.report(0, 0), 1);
        Check.same("13: report(0, 0) again", x.report(0, 0), 2);
        Check.same("13: another title", x.report(0, 1), 1);
        Check.same("13: another package", x.report(1, 0), 1);
        x.pass(1000);
        Check.same("13: a break stays", x.report(0, 0), 3);
        Check.same("14: mend(0, 0)", x.mend(0, 0), 3);
        Check.same("14: mend(0, 0) again", x.mend(0, 0), 0);
        Check.same("13: report after mend", x.report(0, 0), 1);
        Check.same("14: another title", x.mend(0, 1), 1);
        Check.same("14: another package", x.mend(1, 0), 1);
        x.come(0, 0, 0, 55, 0);
        x.go(0, 0);
        x.subscribe(0, true);
        x.subscribe(0, false);
        Check.same("13: come and go mend nothing", x.report(0, 0), 2);
    }

    /** A break needs neither a subscription nor the title in the package, and stays when it goes. */
    private static void needsNoStay() {
        LinkResolver x = two();
        Check.same("13: the title never came", x.report(1, 1), 1);
        x.come(1, 1, 0, 55, 0);
        Check.same("13: the title has come", x.report(1, 1), 2);
        x.go(1, 1);
        Check.same("13: the title has gone", x.report(1, 1), 3);
        x.pass(20000);
        Check.same("13: on the last day", x.report(1, 1), 4);
        Check.same("14: all of them", x.mend(1, 1), 4);
        Check.same("14: none is left", x.mend(1, 1), 0);
        Check.same("13: the first one again", x.report(1, 1), 1);
    }

    /** Ten packages and 20 titles have breaks of their own. */
    private static void eachHasItsOwn() {
        LinkResolver x = new LinkResolver();
        for (int title = 0; title < 20; title++) {
            x.addTitle(0, 1);
        }
        for (int pack = 0; pack < 10; pack++) {
            x.addPackage(0, 0, 15, 0);
        }
        for (int pack = 0; pack < 10; pack++) {
            for (int title = pack % 2; title < 20; title += 2) {
                Check.same("13: report(" + pack + ", " + title + ")", x.report(pack, title), 1);
            }
        }
        for (int pack = 0; pack < 10; pack++) {
            for (int title = 0; title < 20; title++) {
                Check.same("14: mend(" + pack + ", " + title + ")", x.mend(pack, title), (pack + title + 1) % 2);
            }
        }
    }

    private static void refuses() {
        LinkResolver x = two();
        x.report(0, 0);
        for (int far : FAR) {
            Check.index("13: report(" + far + ", 0)", () -> x.report(far, 0));
            Check.index("13: report(0, " + far + ")", () -> x.report(0, far));
            Check.index("14: mend(" + far + ", 0)", () -> x.mend(far, 0));
            Check.index("14: mend(0, " + far + ")", () -> x.mend(0, far));
        }
        Check.index("13: report(2, 0)", () -> x.report(2, 0));
        Check.index("13: report(0, 2)", () -> x.report(0, 2));
        Check.index("14: mend(2, 0)", () -> x.mend(2, 0));
        Check.index("14: mend(0, 2)", () -> x.mend(0, 2));
        Check.same("14: nothing is changed", x.mend(0, 0), 1);
    }

    private static void manyReports() {
        LinkResolver x = two();
        for (int i = 1; i <= 500; i++) {
            Check.same("13: report no. " + i, x.report(1, 1), i);
        }
        Check.same("14: mend all", x.mend(1, 1), 500);
    }
}
