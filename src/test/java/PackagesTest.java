/** Promises 5 to 12: addPackage, subscribe, come, go, pass, today, isSubscribed, isIn. */
public final class PackagesTest {
    private static final int[] FAR = {Integer.MIN_VALUE, -1, Integer.MAX_VALUE};

    public static void main(String[] args) {
        Check.begin();
        addPackageNumbers();
        addPackageRefuses();
        addPackageRanges();
        refusedPackagesTakeNoNumber();
        subscribeAnswers();
        subscribeRefuses();
        comeAnswers();
        comeRefuses();
        comeRanges();
        goAnswers();
        goRefuses();
        goNeedsNoSubscription();
        passAndToday();
        passRefuses();
        passToTheLastDay();
        isSubscribedOnEachDay();
        isSubscribedRefuses();
        isInOnEachDay();
        isInRefuses();
        onTheLastDay();
        beforeItWasAdded();
        everyTitleOfEveryPackage();
        Check.end();
    }

    private static LinkResolver small() {
        LinkResolver x = new LinkResolver();
        x.addTitle(0, 1);
        x.addPackage(0, 0, 15, 0);
        return x;
    }

    private static void addPackageNumbers() {
        LinkResolver x = new LinkResolver();
        x.addTitle(0, 1);
        for (int i = 0; i < 10; i++) {
            Check.same("5: addPackage no. " + i,
                    x.addPackage(i % 2 * 1000, i % 3, i % 2 * 15, i % 2), i);
            Check.no("5: a new package is not subscribed to", x.isSubscribed(i, 0));
            Check.no("5: a new package has no titles", x.isIn(i, 0, 0));
        }
        Check.state("5: the 11th package", () -> x.addPackage(0, 0, 0, 0));
        Check.state("5: the 11th package again", () -> x.addPackage(1000, 2, 15, 1));
        Check.argument("5: the 11th, cost out of range", () -> x.addPackage(1001, 0, 0, 0));
        Check.argument("5: the 11th, keeps out of range", () -> x.addPackage(0, 0, 0, 2));
        Check.index("5: no package 10", () -> x.isNeedless(10));
        Check.no("5: the last package", x.isSubscribed(9, 0));
    }

    private static void addPackageRefuses() {
        LinkResolver x = new LinkResolver();
        for (int far : FAR) {
            Check.argument("5: cost " + far, () -> x.addPackage(far, 0, 0, 0));
            Check.argument("5: version " + far, () -> x.addPackage(0, far, 0, 0));
            Check.argument("5: groups " + far, () -> x.addPackage(0, 0, far, 0));
            Check.argument("5: keeps " + far, () -> x.addPackage(0, 0, 0, far));
        }
        Check.argument("5: cost 1001", () -> x.addPackage(1001, 0, 0, 0));
        Check.argument("5: version 3", () -> x.addPackage(0, 3, 0, 0));
        Check.argument("5: groups 16", () -> x.addPackage(0, 0, 16, 0));
        Check.argument("5: keeps 2", () -> x.addPackage(0, 0, 0, 2));
        Check.index("5: a refused package is not there", () -> x.subscribe(0, true));
        Check.same("5: the least", x.addPackage(0, 0, 0, 0), 0);
        Check.same("5: the greatest", x.addPackage(1000, 2, 15, 1), 1);
    }

    /** Each value that an argument may have, and one less and one more. */
    private static void addPackageRanges() {
        int[] most = {1000, 2, 15, 1};
        for (int which = 0; which < 4; which++) {
            LinkResolver x = new LinkResolver();
            for (int value = -1; value <= most[which] + 1; value++) {
                int[] a = new int[4];
                a[which] = value;
                LinkResolver y = value % 10 == 0 ? new LinkResolver() : x;
                x = y;
                if (value < 0 || value > most[which]) {
                    Check.argument("5: argument " + which + " at " + value, () -> y.addPackage(a[0], a[1], a[2], a[3]));
                } else {
                    Check.same("5: argument " + which + " at " + value, y.addPackage(a[0], a[1], a[2], a[3]), value % 10);
                }
            }
        }
    }

    /** A refused package leaves no hole in the numbers, and room for the 10th. */
    private static void refusedPackagesTakeNoNumber() {
        LinkResolver x = new LinkResolver();
        for (int i = 0; i < 10; i++) {
            Check.argument("5: refused ahead of no. " + i, () -> x.addPackage(-1, 0, 15, 0));
            Check.same("5: no. " + i, x.addPackage(i, 0, 15, 0), i);
            Check.argument("5: refused behind no. " + i, () -> x.addPackage(0, 0, 15, 2));
        }
        Check.state("5: the 11th", () -> x.addPackage(0, 0, 15, 0));
    }

    private static void subscribeAnswers() {
        LinkResolver x = small();
        x.addPackage(0, 0, 0, 0);
        Check.no("6: subscribe(0, false) at first", x.subscribe(0, false));
        Check.no("6: subscribe(0, true)", x.subscribe(0, true));
        Check.yes("6: subscribe(0, true) again", x.subscribe(0, true));
        Check.yes("6: isSubscribed(0, 0)", x.isSubscribed(0, 0));
        Check.no("6: isSubscribed(1, 0)", x.isSubscribed(1, 0));
        Check.yes("6: subscribe(0, false)", x.subscribe(0, false));
        Check.no("6: subscribe(0, false) again", x.subscribe(0, false));
        Check.no("6: isSubscribed(0, 0) then", x.isSubscribed(0, 0));
        x.subscribe(0, true);
        x.pass(400);
        Check.yes("6: it stays subscribed to", x.subscribe(0, false));
        Check.yes("6: the days before stay", x.isSubscribed(0, 399));
        x.pass(1);
        Check.no("6: it was yesterday's, not the first day's", x.subscribe(0, true));
        Check.yes("6: it is today's", x.subscribe(0, true));
    }

    private static void subscribeRefuses() {
        LinkResolver x = small();
        for (int far : FAR) {
            Check.index("6: subscribe(" + far + ", true)", () -> x.subscribe(far, true));
        }
        Check.index("6: subscribe(1, true)", () -> x.subscribe(1, true));
        Check.no("6: nothing is changed", x.isSubscribed(0, 0));
    }

    private static void comeAnswers() {
        LinkResolver x = small();
        x.addTitle(0, 1);
        x.addPackage(0, 0, 15, 0);
        Check.no("7: come at first", x.come(0, 0, 0, 0, 0));
        Check.yes("7: come again", x.come(0, 0, 55, 55, 20));
        Check.no("7: another title", x.come(0, 1, 0, 55, 0));
        Check.no("7: another package", x.isIn(1, 0, 0));
        x.go(0, 0);
        Check.no("7: come after go", x.come(0, 0, 3, 4, 5));
        x.pass(1);
        Check.yes("7: it stays", x.come(0, 0, 0, 55, 0));
        x.subscribe(0, true);
        Check.yes("7: the new years count", x.covers(0, 0, 0, 0, 1));
        x.go(0, 0);
        Check.no("7: come after go of today", x.come(0, 0, 0, 55, 1));
        Check.no("7: the new wall counts", x.covers(0, 0, 0, 0, 1));
        x.pass(360);
        Check.yes("7: the wall has moved", x.covers(0, 0, 0, 0, 361));
        x.come(0, 0, 1, 1, 0);
        Check.no("7: the new first year counts", x.covers(0, 0, 0, 0, 361));
        Check.yes("7: the new last year counts", x.covers(0, 0, 1, 0, 361));
        Check.yes("7: the old ones count before", x.covers(0, 0, 0, 0, 360));
    }

    private static void comeRefuses() {
        LinkResolver x = small();
        for (int far : FAR) {
            Check.index("7: package " + far, () -> x.come(far, 0, 0, 0, 0));
            Check.index("7: title " + far, () -> x.come(0, far, 0, 0, 0));
            Check.argument("7: first " + far, () -> x.come(0, 0, far, 55, 0));
            Check.argument("7: last " + far, () -> x.come(0, 0, 0, far, 0));
            Check.argument("7: wall " + far, () -> x.come(0, 0, 0, 0, far));
        }
        Check.argument("7: first 56", () -> x.come(0, 0, 56, 56, 0));
        Check.argument("7: last 56", () -> x.come(0, 0, 0, 56, 0));
        Check.argument("7: last before first", () -> x.come(0, 0, 5, 4, 0));
        Check.argument("7: wall 21", () -> x.come(0, 0, 0, 0, 21));
        Check.index("7: package 1", () -> x.come(1, 0, 0, 0, 0));
        Check.index("7: title 1", () -> x.come(0, 1, 0, 0, 0));
        Check.index("7: the package comes first", () -> x.come(1, 0, 0, 0, 21));
        Check.index("7: the title comes first", () -> x.come(0, 1, 5, 4, 0));
        Check.no("7: nothing is changed", x.isIn(0, 0, 0));
        x.come(0, 0, 0, 55, 0);
        x.subscribe(0, true);
        Check.argument("7: a wrong wall", () -> x.come(0, 0, 3, 3, 21));
        Check.yes("7: the years that were count on", x.covers(0, 0, 0, 0, 0));
    }

    /** All years from -1 to 56 as the first and as the last one. */
    private static void comeRanges() {
        for (int first = -1; first <= 56; first++) {
            LinkResolver x = small();
            x.subscribe(0, true);
            for (int last = -1; last <= 56; last++) {
                int[] a = {first, last};
                if (first >= 0 && first <= last && last <= 55) {
                    Check.same("7: " + first + " to " + last, x.come(0, 0, first, last, 0) ? 1 : 0, last > first ? 1 : 0);
                } else {
                    Check.argument("7: " + first + " to " + last, () -> x.come(0, 0, a[0], a[1], 0));
                }
            }
        }
        LinkResolver x = small();
        for (int wall = -1; wall <= 21; wall++) {
            int at = wall;
            if (wall >= 0 && wall <= 20) {
                Check.same("7: wall " + wall, x.come(0, 0, 0, 0, wall) ? 1 : 0, wall > 0 ? 1 : 0);
            } else {
                Check.argument("7: wall " + wall, () -> x.come(0, 0, 0, 0, at));
            }
        }
    }

    private static void goAnswers() {
        LinkResolver x = small();
        x.addTitle(0, 1);
        x.addPackage(0, 0, 15, 0);
        x.come(0, 0, 0, 55, 0);
        x.come(0, 1, 0, 55, 0);
        x.come(1, 0, 0, 55, 0);
        x.pass(10);
        x.go(0, 0);
        Check.no("8: it is gone today", x.isIn(0, 0, 10));
        Check.yes("8: it was in it yesterday", x.isIn(0, 0, 9));
        Check.yes("8: another title stays", x.isIn(0, 1, 10));
        Check.yes("8: another package keeps it", x.isIn(1, 0, 10));
        x.come(0, 0, 0, 55, 0);
        x.go(0, 0);
        Check.no("8: come and go on one day", x.isIn(0, 0, 10));
    }

    private static void goRefuses() {
        LinkResolver x = small();
        for (int far : FAR) {
            Check.index("8: go(" + far + ", 0)", () -> x.go(far, 0));
            Check.index("8: go(0, " + far + ")", () -> x.go(0, far));
        }
        Check.index("8: go(1, 0)", () -> x.go(1, 0));
        Check.index("8: go(0, 1)", () -> x.go(0, 1));
        Check.state("8: it never came", () -> x.go(0, 0));
        x.come(0, 0, 0, 55, 0);
        x.go(0, 0);
        Check.state("8: it is gone", () -> x.go(0, 0));
        x.pass(1);
        Check.state("8: it is gone the day after", () -> x.go(0, 0));
    }

    /** A title goes whether the package is subscribed to or not, and once for each time that it comes. */
    private static void goNeedsNoSubscription() {
        LinkResolver x = small();
        x.come(0, 0, 0, 55, 20);
        x.come(0, 0, 0, 55, 0);
        x.go(0, 0);
        Check.state("8: it came twice, but goes once", () -> x.go(0, 0));
        x.subscribe(0, true);
        Check.state("8: a subscription does not let it come", () -> x.go(0, 0));
        Check.no("8: it is not in it", x.isIn(0, 0, 0));
        x.come(0, 0, 0, 55, 0);
        x.subscribe(0, false);
        Check.yes("8: a cancellation does not let it go", x.isIn(0, 0, 0));
        x.go(0, 0);
        Check.no("8: it has gone", x.isIn(0, 0, 0));
    }

    private static void passAndToday() {
        LinkResolver x = new LinkResolver();
        Check.same("10: today at first", x.today(), 0);
        Check.same("9: pass(1)", x.pass(1), 1);
        Check.same("10: today", x.today(), 1);
        Check.same("9: pass(19998)", x.pass(19998), 19999);
        Check.same("9: pass(1) to the last day", x.pass(1), 20000);
        Check.same("10: the last day", x.today(), 20000);
        Check.state("9: pass(1) above it", () -> x.pass(1));
        Check.same("10: today after that", x.today(), 20000);
        Check.same("9: pass(20000)", new LinkResolver().pass(20000), 20000);
    }

    private static void passRefuses() {
        LinkResolver x = new LinkResolver();
        x.pass(5);
        for (int far : FAR) {
            Check.argument("9: pass(" + far + ")", () -> x.pass(far));
        }
        Check.argument("9: pass(0)", () -> x.pass(0));
        Check.argument("9: pass(20001): out of range comes first", () -> x.pass(20001));
        Check.state("9: pass(20000)", () -> x.pass(20000));
        Check.state("9: pass(19996)", () -> x.pass(19996));
        Check.same("9: nothing is changed", x.today(), 5);
        Check.same("9: pass(19995)", x.pass(19995), 20000);
        Check.argument("9: pass(0) on the last day", () -> x.pass(0));
    }

    /** From each day the most that may pass, and one more; days pass one by one as well as at once. */
    private static void passToTheLastDay() {
        int[] from = {1, 2, 359, 360, 10000, 19998, 19999};
        for (int day : from) {
            LinkResolver x = new LinkResolver();
            x.pass(day);
            Check.state("9: one more than may pass from " + day, () -> x.pass(20001 - day));
            Check.same("9: the most that may pass from " + day, x.pass(20000 - day), 20000);
            Check.same("10: today then", x.today(), 20000);
        }
        LinkResolver x = new LinkResolver();
        for (int day = 1; day <= 256; day++) {
            Check.same("9: one by one, the day " + day, x.pass(1), day);
            Check.same("10: one by one, the day " + day, x.today(), day);
        }
    }

    private static void onTheLastDay() {
        LinkResolver x = small();
        x.subscribe(0, true);
        x.come(0, 0, 0, 0, 0);
        x.pass(20000);
        Check.yes("11: the first day", x.isSubscribed(0, 0));
        Check.yes("11: the last day", x.isSubscribed(0, 20000));
        Check.argument("11: behind the last day", () -> x.isSubscribed(0, 20001));
        Check.argument("11: ahead of the first day", () -> x.isSubscribed(0, -1));
        Check.yes("12: the first day", x.isIn(0, 0, 0));
        Check.yes("12: the last day", x.isIn(0, 0, 20000));
        Check.argument("12: behind the last day", () -> x.isIn(0, 0, 20001));
        Check.argument("12: ahead of the first day", () -> x.isIn(0, 0, -1));
        Check.yes("6: subscribe on the last day", x.subscribe(0, false));
        Check.yes("7: come on the last day", x.come(0, 0, 0, 0, 0));
        x.go(0, 0);
        Check.no("11: cancelled on the last day", x.isSubscribed(0, 20000));
        Check.no("12: gone on the last day", x.isIn(0, 0, 20000));
        Check.yes("11: not on the last but one", x.isSubscribed(0, 19999));
        Check.yes("12: not on the last but one", x.isIn(0, 0, 19999));
    }

    /** What is added later was not subscribed to, nor in anything, on the days before. */
    private static void beforeItWasAdded() {
        LinkResolver x = small();
        x.pass(5);
        x.addTitle(0, 1);
        x.addPackage(0, 0, 15, 0);
        x.subscribe(1, true);
        x.come(1, 1, 0, 55, 0);
        x.come(0, 1, 0, 55, 0);
        for (int day = 0; day <= 4; day++) {
            Check.no("11: on the day " + day, x.isSubscribed(1, day));
            Check.no("12: on the day " + day, x.isIn(1, 1, day));
            Check.no("12: in an older package on the day " + day, x.isIn(0, 1, day));
            Check.same("16: on the day " + day, x.ways(1, 0, 0, day), 0);
        }
        Check.yes("11: today", x.isSubscribed(1, 5));
        Check.yes("12: today", x.isIn(1, 1, 5));
    }

    private static void isSubscribedOnEachDay() {
        LinkResolver x = small();
        x.pass(3);
        x.subscribe(0, true);
        x.pass(4);
        x.subscribe(0, false);
        x.pass(2);
        x.subscribe(0, false);
        x.subscribe(0, true);
        x.pass(1);
        for (int day = 0; day <= 10; day++) {
            boolean is = day >= 3 && day < 7 || day >= 9;
            Check.same("11: on the day " + day, x.isSubscribed(0, day) ? 1 : 0, is ? 1 : 0);
        }
    }

    private static void isSubscribedRefuses() {
        LinkResolver x = small();
        x.pass(10);
        for (int far : FAR) {
            Check.index("11: package " + far, () -> x.isSubscribed(far, 0));
            Check.argument("11: day " + far, () -> x.isSubscribed(0, far));
        }
        Check.argument("11: tomorrow", () -> x.isSubscribed(0, 11));
        Check.index("11: the package comes first", () -> x.isSubscribed(1, 11));
        Check.no("11: today", x.isSubscribed(0, 10));
    }

    private static void isInOnEachDay() {
        LinkResolver x = small();
        x.pass(3);
        x.come(0, 0, 0, 0, 20);
        x.pass(2);
        x.come(0, 0, 55, 55, 0);
        x.pass(2);
        x.go(0, 0);
        x.pass(2);
        x.come(0, 0, 1, 1, 1);
        x.go(0, 0);
        x.pass(1);
        x.come(0, 0, 1, 1, 1);
        x.pass(1);
        for (int day = 0; day <= 11; day++) {
            boolean is = day >= 3 && day < 7 || day >= 10;
            Check.same("12: on the day " + day, x.isIn(0, 0, day) ? 1 : 0, is ? 1 : 0);
        }
        Check.no("12: it needs no subscription", x.isSubscribed(0, 11));
    }

    private static void isInRefuses() {
        LinkResolver x = small();
        x.pass(10);
        for (int far : FAR) {
            Check.index("12: package " + far, () -> x.isIn(far, 0, 0));
            Check.index("12: title " + far, () -> x.isIn(0, far, 0));
            Check.argument("12: day " + far, () -> x.isIn(0, 0, far));
        }
        Check.argument("12: tomorrow", () -> x.isIn(0, 0, 11));
        Check.index("12: the package comes first", () -> x.isIn(1, 0, 11));
        Check.index("12: the title comes first", () -> x.isIn(0, 1, 11));
        Check.no("12: today", x.isIn(0, 0, 10));
    }

    private static void everyTitleOfEveryPackage() {
        LinkResolver x = new LinkResolver();
        for (int title = 0; title < 20; title++) {
            x.addTitle(0, 1);
        }
        for (int pack = 0; pack < 10; pack++) {
            x.addPackage(0, 0, 15, 0);
        }
        for (int pack = 0; pack < 10; pack++) {
            for (int title = pack; title < 20; title += 3) {
                x.come(pack, title, 0, 55, 0);
            }
        }
        for (int pack = 0; pack < 10; pack++) {
            for (int title = 0; title < 20; title++) {
                boolean is = title >= pack && (title - pack) % 3 == 0;
                Check.same("12: title " + title + " in " + pack,
                        x.isIn(pack, title, 0) ? 1 : 0, is ? 1 : 0);
            }
        }
    }
}
