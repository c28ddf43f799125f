/** Promises 15 to 20: covers, ways, wayAt, gap, doubles, isNeedless. */
public final class WaysTest {
    private static final int[] FAR = {Integer.MIN_VALUE, -1, Integer.MAX_VALUE};

    public static void main(String[] args) {
        Check.begin();
        coversByStay();
        coversByStayWall();
        coversByStayAsOfDays();
        coversByKept();
        coversByKeptLastDay();
        coversByKeptWall();
        coversByKeptYearsOfThen();
        coversGroups();
        coversRefuses();
        waysCount();
        waysRefuse();
        wayAtOrder();
        wayAtBreaks();
        wayAtBreaksAheadOfCosts();
        wayAtAllBroken();
        wayAtPlaces();
        waysOfNoPackages();
        wayAtRefuses();
        gaps();
        gapsOfToday();
        gapAtEachYear();
        gapRefuses();
        doublesCount();
        doublesOfToday();
        doublesOfAllYears();
        doublesRefuse();
        needless();
        needlessByItself();
        needlessGroups();
        needlessByOneGroup();
        needlessByOneYear();
        needlessByAnother();
        needlessRefuses();
        lastDayLastYear();
        allCallsAreChanges();
        Check.end();
    }

    private static LinkResolver one(int firstYear, int groups, int keeps) {
        LinkResolver x = new LinkResolver();
        x.addTitle(firstYear, 1);
        x.addPackage(10, 1, groups, keeps);
        return x;
    }

    private static void coversByStay() {
        LinkResolver x = one(50, 15, 0);
        x.pass(360 * 10);
        Check.no("15: neither", x.covers(0, 0, 5, 0, 3600));
        x.come(0, 0, 3, 6, 0);
        Check.no("15: not subscribed to", x.covers(0, 0, 5, 0, 3600));
        x.subscribe(0, true);
        Check.yes("15: both, before the first year of the title", x.covers(0, 0, 5, 0, 3600));
        Check.no("15: before the first year", x.covers(0, 0, 2, 0, 3600));
        Check.yes("15: the first year", x.covers(0, 0, 3, 0, 3600));
        Check.yes("15: the last year", x.covers(0, 0, 6, 0, 3600));
        Check.no("15: after the last year", x.covers(0, 0, 7, 0, 3600));
        x.go(0, 0);
        Check.no("15: gone", x.covers(0, 0, 5, 0, 3600));
    }

    private static void coversByStayWall() {
        LinkResolver x = one(0, 15, 0);
        x.subscribe(0, true);
        x.come(0, 0, 0, 55, 0);
        Check.yes("15: the year of the day", x.covers(0, 0, 0, 0, 0));
        Check.no("15: the year after the day's", x.covers(0, 0, 1, 0, 0));
        x.come(0, 0, 0, 55, 2);
        x.pass(719);
        Check.no("15: wall 2 in the year 1", x.covers(0, 0, 0, 0, 719));
        x.pass(1);
        Check.yes("15: wall 2 in the year 2", x.covers(0, 0, 0, 0, 720));
        Check.no("15: wall 2 in the year 2, the year 1", x.covers(0, 0, 1, 0, 720));
        x.pass(1);
        x.come(0, 0, 0, 55, 20);
        x.pass(18 * 360 - 2);
        Check.no("15: wall 20 in the year 19", x.covers(0, 0, 0, 0, 7199));
        x.pass(1);
        Check.yes("15: wall 20 in the year 20", x.covers(0, 0, 0, 0, 7200));
        Check.yes("15: wall 2 on an earlier day", x.covers(0, 0, 0, 0, 720));
        Check.no("15: wall 20 a day later", x.covers(0, 0, 0, 0, 721));
    }

    private static void coversByStayAsOfDays() {
        LinkResolver x = one(0, 15, 0);
        x.pass(5);
        x.subscribe(0, true);
        x.pass(5);
        x.come(0, 0, 0, 0, 0);
        x.pass(5);
        x.subscribe(0, false);
        x.pass(5);
        x.subscribe(0, true);
        x.pass(5);
        x.go(0, 0);
        x.pass(5);
        for (int day = 0; day <= 30; day++) {
            boolean is = day >= 10 && day < 15 || day >= 20 && day < 25;
            Check.same("15: on the day " + day, x.covers(0, 0, 0, 0, day) ? 1 : 0, is ? 1 : 0);
            Check.same("16: on the day " + day, x.ways(0, 0, 0, day), is ? 1 : 0);
        }
    }

    private static void coversByKept() {
        for (int keeps = 0; keeps <= 1; keeps++) {
            LinkResolver x = one(0, 15, keeps);
            x.subscribe(0, true);
            x.come(0, 0, 0, 55, 0);
            x.pass(360 + 100);
            x.subscribe(0, false);
            x.pass(360);
            Check.same("15: the year 0 is kept", x.covers(0, 0, 0, 0, 820) ? 1 : 0, keeps);
            Check.no("15: the year 1 had not ended", x.covers(0, 0, 1, 0, 820));
            x.go(0, 0);
            Check.same("15: kept though it is gone", x.covers(0, 0, 0, 0, 820) ? 1 : 0, keeps);
        }
    }

    private static void coversByKeptLastDay() {
        LinkResolver x = one(0, 15, 1);
        x.addPackage(0, 0, 15, 1);
        x.come(0, 0, 0, 55, 0);
        x.come(1, 0, 0, 55, 0);
        x.subscribe(1, true);
        x.pass(359);
        x.subscribe(0, true);
        x.subscribe(1, false);
        Check.yes("15: today by the subscription", x.covers(0, 0, 0, 0, 359));
        Check.no("15: the last day is not earlier than itself", x.covers(1, 0, 0, 0, 359));
        x.pass(1);
        x.subscribe(0, false);
        x.subscribe(1, true);
        x.subscribe(1, false);
        Check.yes("15: subscribed to on the last day alone", x.covers(0, 0, 0, 0, 360));
        Check.no("15: cancelled on the last day", x.covers(1, 0, 0, 0, 360));
        x.pass(359);
        x.subscribe(0, true);
        x.pass(1);
        x.subscribe(0, false);
        Check.yes("15: the last day of the year 1", x.covers(0, 0, 1, 0, 720));
        x.subscribe(0, true);
        x.pass(359);
        x.go(0, 0);
        x.come(0, 0, 0, 55, 0);
        x.pass(1);
        x.go(0, 0);
        Check.yes("15: come again on the last day", x.covers(0, 0, 2, 0, 1080));
        x.come(0, 0, 0, 55, 0);
        x.pass(359);
        x.go(0, 0);
        x.pass(1);
        x.subscribe(0, false);
        Check.no("15: gone on the last day", x.covers(0, 0, 3, 0, 1440));
    }

    private static void coversByKeptWall() {
        LinkResolver x = one(0, 15, 1);
        x.subscribe(0, true);
        x.come(0, 0, 0, 55, 3);
        x.pass(360);
        x.come(0, 0, 55, 55, 0);
        x.pass(719);
        Check.no("15: the wall of then is 3, year 2", x.covers(0, 0, 0, 0, 1079));
        x.pass(1);
        Check.yes("15: the wall of then is 3, year 3", x.covers(0, 0, 0, 0, 1080));
        x.come(0, 0, 0, 55, 0);
        x.pass(360);
        x.come(0, 0, 0, 55, 20);
        Check.yes("15: the wall of then is 0", x.covers(0, 0, 3, 0, 1440));
        Check.no("15: the years between are not kept", x.covers(0, 0, 1, 0, 1440));
        Check.yes("15: the wall of that day", x.covers(0, 0, 2, 0, 1439));
    }

    private static void coversByKeptYearsOfThen() {
        LinkResolver x = one(0, 15, 1);
        x.subscribe(0, true);
        x.come(0, 0, 1, 1, 0);
        x.pass(3 * 360);
        x.subscribe(0, false);
        Check.no("15: the year 0 was before the first year", x.covers(0, 0, 0, 0, 1080));
        Check.yes("15: the year 1 was from first to last", x.covers(0, 0, 1, 0, 1080));
        Check.no("15: the year 2 was after the last year", x.covers(0, 0, 2, 0, 1080));
        x.come(0, 0, 0, 55, 0);
        Check.no("15: the years of now don't count for then", x.covers(0, 0, 0, 0, 1080));
        x.pass(360);
        Check.no("15: not subscribed to when the year ended", x.covers(0, 0, 3, 0, 1440));
    }

    private static void coversGroups() {
        for (int groups = 0; groups <= 15; groups++) {
            LinkResolver x = one(0, groups, 1);
            x.subscribe(0, true);
            x.come(0, 0, 0, 55, 0);
            x.pass(360);
            x.come(0, 0, 1, 55, 0);
            for (int group = 0; group <= 3; group++) {
                int is = groups >> group & 1;
                Check.same("15: by 1, " + groups, x.covers(0, 0, 1, group, 360) ? 1 : 0, is);
                Check.same("15: by 2, " + groups, x.covers(0, 0, 0, group, 360) ? 1 : 0, is);
                Check.same("16: by 2, " + groups, x.ways(0, 0, group, 360), is);
                Check.same("18: " + groups, x.gap(0, group), is == 1 ? -1 : 0);
            }
        }
    }

    private static void coversRefuses() {
        LinkResolver x = one(0, 15, 1);
        x.pass(10);
        for (int far : FAR) {
            Check.index("15: package " + far, () -> x.covers(far, 0, 0, 0, 0));
            Check.index("15: title " + far, () -> x.covers(0, far, 0, 0, 0));
            Check.argument("15: year " + far, () -> x.covers(0, 0, far, 0, 0));
            Check.argument("15: group " + far, () -> x.covers(0, 0, 0, far, 0));
            Check.argument("15: day " + far, () -> x.covers(0, 0, 0, 0, far));
        }
        Check.argument("15: year 56", () -> x.covers(0, 0, 56, 0, 0));
        Check.argument("15: group 4", () -> x.covers(0, 0, 0, 4, 0));
        Check.argument("15: day 11", () -> x.covers(0, 0, 0, 0, 11));
        Check.index("15: the package comes first", () -> x.covers(1, 0, 56, 4, 11));
        Check.index("15: the title comes first", () -> x.covers(0, 1, 56, 4, 11));
        Check.no("15: the greatest", x.covers(0, 0, 55, 3, 10));
    }

    private static LinkResolver tenWays(int[] costs, int[] versions) {
        LinkResolver x = new LinkResolver();
        x.addTitle(0, 1);
        x.addTitle(0, 1);
        for (int pack = 0; pack < 10; pack++) {
            x.addPackage(costs[pack], versions[pack], 15, 0);
            x.subscribe(pack, true);
            x.come(pack, 0, 0, 55, 0);
        }
        return x;
    }

    private static void waysCount() {
        LinkResolver x = tenWays(new int[10], new int[10]);
        Check.same("16: ten ways", x.ways(0, 0, 3, 0), 10);
        Check.same("16: another title", x.ways(1, 0, 3, 0), 0);
        Check.same("16: another year", x.ways(0, 1, 3, 0), 0);
        x.pass(1);
        x.subscribe(4, false);
        x.go(9, 0);
        Check.same("16: eight ways", x.ways(0, 0, 0, 1), 8);
        Check.same("16: ten ways on the day before", x.ways(0, 0, 0, 0), 10);
        x.report(0, 0);
        x.report(0, 0);
        Check.same("16: a broken way is one too", x.ways(0, 0, 0, 1), 8);
    }

    private static void waysRefuse() {
        LinkResolver x = one(0, 15, 1);
        x.pass(10);
        for (int far : FAR) {
            Check.index("16: title " + far, () -> x.ways(far, 0, 0, 0));
            Check.argument("16: year " + far, () -> x.ways(0, far, 0, 0));
            Check.argument("16: group " + far, () -> x.ways(0, 0, far, 0));
            Check.argument("16: day " + far, () -> x.ways(0, 0, 0, far));
        }
        Check.argument("16: year 56", () -> x.ways(0, 56, 0, 0));
        Check.argument("16: group 4", () -> x.ways(0, 0, 4, 0));
        Check.argument("16: day 11", () -> x.ways(0, 0, 0, 11));
        Check.index("16: the title comes first", () -> x.ways(1, 56, 4, 11));
        Check.same("16: the greatest", x.ways(0, 55, 3, 10), 0);
    }

    private static void wayAtOrder() {
        int[] costs = {7, 1000, 7, 0, 7, 7, 1, 0, 999, 7};
        int[] versions = {2, 0, 1, 2, 1, 0, 2, 2, 1, 2};
        int[] due = {3, 7, 6, 5, 2, 4, 0, 9, 8, 1};
        LinkResolver x = tenWays(costs, versions);
        for (int place = 0; place < 10; place++) {
            Check.same("17: place " + place, x.wayAt(place, 0, 0, 0, 0), due[place]);
        }
        x.pass(1);
        x.subscribe(7, false);
        Check.same("17: the next one moves up", x.wayAt(1, 0, 0, 0, 1), 6);
        Check.same("17: the last one moves up", x.wayAt(8, 0, 0, 0, 1), 1);
        Check.same("17: the day before", x.wayAt(1, 0, 0, 0, 0), 7);
        Check.index("17: nine places now", () -> x.wayAt(9, 0, 0, 0, 1));
    }

    private static void wayAtBreaks() {
        LinkResolver x = tenWays(new int[10], new int[10]);
        x.report(0, 0);
        Check.same("17: one break is none", x.wayAt(0, 0, 0, 0, 0), 0);
        x.report(0, 0);
        Check.same("17: two breaks", x.wayAt(0, 0, 0, 0, 0), 1);
        Check.same("17: two breaks, the last place", x.wayAt(9, 0, 0, 0, 0), 0);
        x.report(1, 1);
        x.report(1, 1);
        Check.same("17: breaks for another title", x.wayAt(0, 0, 0, 0, 0), 1);
        x.report(5, 0);
        x.report(5, 0);
        x.report(5, 0);
        Check.same("17: the broken ones by number", x.wayAt(8, 0, 0, 0, 0), 0);
        Check.same("17: the broken ones by number, then", x.wayAt(9, 0, 0, 0, 0), 5);
        x.pass(1);
        x.mend(0, 0);
        Check.same("17: mended now, of an earlier day", x.wayAt(0, 0, 0, 0, 0), 0);
        Check.same("17: broken now, of an earlier day", x.wayAt(9, 0, 0, 0, 0), 5);
    }

    /** Whether 0, 1, 2 or 3 breaks: fewer than 2 come ahead, whatever the cost, and more than 2 are as 2. */
    private static void wayAtBreaksAheadOfCosts() {
        for (int breaks = 0; breaks <= 3; breaks++) {
            LinkResolver x = new LinkResolver();
            x.addTitle(0, 1);
            x.addPackage(0, 0, 15, 0);
            x.addPackage(1000, 2, 15, 0);
            x.addPackage(999, 2, 15, 0);
            for (int pack = 0; pack < 3; pack++) {
                x.subscribe(pack, true);
                x.come(pack, 0, 0, 55, 0);
            }
            x.report(2, 0);
            x.report(2, 0);
            for (int i = 0; i < breaks; i++) {
                x.report(0, 0);
            }
            boolean isAhead = breaks < 2;
            Check.same("17: place 0, " + breaks + " breaks", x.wayAt(0, 0, 0, 0, 0), isAhead ? 0 : 1);
            Check.same("17: place 1, " + breaks + " breaks", x.wayAt(1, 0, 0, 0, 0), isAhead ? 1 : 0);
            Check.same("17: place 2, " + breaks + " breaks", x.wayAt(2, 0, 0, 0, 0), 2);
            x.mend(0, 0);
            x.report(0, 0);
            Check.same("17: one break since they were mended", x.wayAt(0, 0, 0, 0, 0), 0);
            x.mend(2, 0);
            Check.same("17: mended, it moves up", x.wayAt(1, 0, 0, 0, 0), 2);
        }
    }

    /** All broken, the ways are ordered as if none were. */
    private static void wayAtAllBroken() {
        int[] costs = {7, 1000, 7, 0, 7, 7, 1, 0, 999, 7};
        int[] versions = {2, 0, 1, 2, 1, 0, 2, 2, 1, 2};
        int[] due = {3, 7, 6, 5, 2, 4, 0, 9, 8, 1};
        LinkResolver x = tenWays(costs, versions);
        for (int pack = 0; pack < 10; pack++) {
            for (int i = 0; i < 2 + pack; i++) {
                x.report(pack, 0);
            }
        }
        for (int place = 0; place < 10; place++) {
            Check.same("17: all broken, place " + place, x.wayAt(place, 0, 0, 0, 0), due[place]);
        }
        Check.index("17: all broken, place 10", () -> x.wayAt(10, 0, 0, 0, 0));
        Check.index("17: all broken, place -1", () -> x.wayAt(-1, 0, 0, 0, 0));
    }

    /** With n ways, from none to ten, there are the places 0 to n - 1. */
    private static void wayAtPlaces() {
        for (int ways = 0; ways <= 10; ways++) {
            LinkResolver x = tenWays(new int[10], new int[10]);
            for (int pack = 9; pack >= ways; pack--) {
                x.subscribe(pack, false);
            }
            Check.same("16: " + ways + " ways", x.ways(0, 0, 0, 0), ways);
            for (int place = 0; place < ways; place++) {
                Check.same("17: place " + place + " of " + ways, x.wayAt(place, 0, 0, 0, 0), place);
            }
            int behind = ways;
            Check.index("17: place " + ways + " of as many", () -> x.wayAt(behind, 0, 0, 0, 0));
            Check.index("17: place -1 of " + ways, () -> x.wayAt(-1, 0, 0, 0, 0));
        }
    }

    private static void waysOfNoPackages() {
        LinkResolver x = new LinkResolver();
        x.addTitle(0, 1);
        Check.same("16: no packages", x.ways(0, 0, 0, 0), 0);
        Check.index("17: no packages", () -> x.wayAt(0, 0, 0, 0, 0));
        Check.same("18: no packages", x.gap(0, 0), 0);
        Check.same("19: no packages", x.doubles(0, 0), 0);
    }

    private static void wayAtRefuses() {
        LinkResolver x = one(0, 15, 1);
        x.subscribe(0, true);
        x.come(0, 0, 0, 0, 0);
        x.pass(10);
        for (int far : FAR) {
            Check.index("17: place " + far, () -> x.wayAt(far, 0, 0, 0, 0));
            Check.index("17: title " + far, () -> x.wayAt(0, far, 0, 0, 0));
            Check.argument("17: year " + far, () -> x.wayAt(0, 0, far, 0, 0));
            Check.argument("17: group " + far, () -> x.wayAt(0, 0, 0, far, 0));
            Check.argument("17: day " + far, () -> x.wayAt(0, 0, 0, 0, far));
        }
        Check.argument("17: year 56", () -> x.wayAt(0, 0, 56, 0, 0));
        Check.argument("17: group 4", () -> x.wayAt(0, 0, 0, 4, 0));
        Check.argument("17: day 11", () -> x.wayAt(0, 0, 0, 0, 11));
        Check.argument("17: the year comes first", () -> x.wayAt(-1, 1, 56, 0, 0));
        Check.argument("17: the group comes first", () -> x.wayAt(-1, 1, 0, 4, 0));
        Check.argument("17: the day comes first", () -> x.wayAt(-1, 1, 0, 0, 11));
        Check.index("17: place 1 of 1", () -> x.wayAt(1, 0, 0, 0, 10));
        Check.index("17: place 0 of none", () -> x.wayAt(0, 0, 1, 0, 10));
        Check.index("17: no such title", () -> x.wayAt(0, 1, 0, 0, 10));
        Check.same("17: place 0 of 1", x.wayAt(0, 0, 0, 3, 10), 0);
    }

    private static void gaps() {
        LinkResolver x = one(2, 15, 0);
        Check.same("18: the first year is to come", x.gap(0, 0), -1);
        x.pass(719);
        Check.same("18: the day before the first year", x.gap(0, 0), -1);
        x.pass(1);
        Check.same("18: the first year", x.gap(0, 0), 2);
        x.subscribe(0, true);
        x.come(0, 0, 3, 4, 0);
        Check.same("18: still the first year", x.gap(0, 0), 2);
        x.come(0, 0, 2, 4, 0);
        Check.same("18: no gap", x.gap(0, 3), -1);
        x.pass(3 * 360);
        Check.same("18: after the last year", x.gap(0, 0), 5);
        x.addPackage(0, 0, 2, 0);
        x.subscribe(1, true);
        x.come(1, 0, 4, 55, 0);
        Check.same("18: filled for the group 1", x.gap(0, 1), -1);
        Check.same("18: not filled for the group 0", x.gap(0, 0), 5);
        x.come(0, 0, 2, 3, 0);
        Check.same("18: side by side", x.gap(0, 1), -1);
        x.come(0, 0, 2, 2, 0);
        Check.same("18: a year between", x.gap(0, 1), 3);
    }

    /** A gap is of today: a kept year is none, a year that had a way only once is one. */
    private static void gapsOfToday() {
        LinkResolver x = one(0, 15, 1);
        x.subscribe(0, true);
        x.come(0, 0, 0, 55, 0);
        x.pass(720);
        x.subscribe(0, false);
        Check.same("18: the years 0 and 1 are kept", x.gap(0, 0), 2);
        x.subscribe(0, true);
        Check.same("18: no gap by 1 and 2", x.gap(0, 0), -1);
        x.come(0, 0, 55, 55, 0);
        Check.same("18: the year of today", x.gap(0, 0), 2);
        LinkResolver y = one(0, 15, 0);
        y.subscribe(0, true);
        y.come(0, 0, 0, 55, 0);
        y.pass(720);
        Check.same("18: no gap by 1", y.gap(0, 0), -1);
        y.subscribe(0, false);
        Check.same("18: yesterday's ways are none", y.gap(0, 0), 0);
        y.subscribe(0, true);
        y.come(0, 0, 0, 55, 1);
        Check.same("18: the year of today is behind the wall", y.gap(0, 0), 2);
        y.report(0, 0);
        y.report(0, 0);
        Check.same("18: a broken way is one too", y.gap(0, 0), 2);
    }

    /** Each year may be the first gap: all the others of the title have a way. */
    private static void gapAtEachYear() {
        for (int first = 0; first <= 55; first += 11) {
            for (int year = first; year <= 55; year++) {
                LinkResolver x = one(first, 15, 0);
                x.addPackage(0, 0, 15, 0);
                x.subscribe(0, true);
                x.subscribe(1, true);
                if (year > 0) {
                    x.come(0, 0, 0, year - 1, 0);
                }
                if (year < 55) {
                    x.come(1, 0, year + 1, 55, 0);
                }
                if (year > 0) {
                    x.pass(360 * year - 1);
                    Check.same("18: the day before the year " + year, x.gap(0, 0), -1);
                    x.pass(1);
                }
                Check.same("18: the first day of the year " + year, x.gap(0, 0), year);
                x.pass(20000 - 360 * year);
                Check.same("18: only the year " + year, x.gap(0, 0), year);
                Check.same("19: no year twice", x.doubles(0, 0), 0);
            }
        }
    }

    private static void gapRefuses() {
        LinkResolver x = one(0, 15, 1);
        for (int far : FAR) {
            Check.index("18: title " + far, () -> x.gap(far, 0));
            Check.argument("18: group " + far, () -> x.gap(0, far));
        }
        Check.argument("18: group 4", () -> x.gap(0, 4));
        Check.index("18: the title comes first", () -> x.gap(1, 4));
    }

    private static void doublesCount() {
        LinkResolver x = one(2, 15, 0);
        x.addPackage(0, 0, 3, 0);
        x.addPackage(0, 0, 1, 0);
        for (int pack = 0; pack < 3; pack++) {
            x.subscribe(pack, true);
            x.come(pack, 0, 0, 55, pack);
        }
        Check.same("19: before the first year", x.doubles(0, 0), 0);
        x.pass(720);
        Check.same("19: only one way to the year 2", x.doubles(0, 0), 0);
        x.pass(360);
        Check.same("19: two ways to the year 2", x.doubles(0, 0), 1);
        x.pass(360);
        Check.same("19: three ways count once", x.doubles(0, 0), 2);
        Check.same("19: two ways for the group 1", x.doubles(0, 1), 2);
        Check.same("19: one way for the group 2", x.doubles(0, 2), 0);
        x.come(1, 0, 2, 2, 0);
        Check.same("19: the two others", x.doubles(0, 0), 1);
        x.come(2, 0, 4, 4, 0);
        Check.same("19: not next to each other", x.doubles(0, 0), 2);
        x.subscribe(0, false);
        Check.same("19: no doubles", x.doubles(0, 0), 0);
        x.addTitle(0, 1);
        Check.same("19: no ways to the year 0", x.doubles(1, 0), 0);
        x.subscribe(0, true);
        x.come(0, 1, 0, 0, 0);
        Check.same("19: one way to the year 0", x.doubles(1, 0), 0);
        x.come(1, 1, 0, 0, 0);
        Check.same("19: two ways to the year 0", x.doubles(1, 0), 1);
    }

    /** Ways of today by 2 count, those of yesterday do not, and each year counts once. */
    private static void doublesOfToday() {
        LinkResolver x = one(0, 15, 1);
        x.addPackage(0, 0, 15, 1);
        for (int pack = 0; pack < 2; pack++) {
            x.subscribe(pack, true);
            x.come(pack, 0, 0, 55, 0);
        }
        Check.same("19: by 1", x.doubles(0, 0), 1);
        x.pass(720);
        Check.same("19: by 1 and 2 of one package is one way", x.doubles(0, 0), 3);
        x.subscribe(0, false);
        Check.same("19: by 2 and by 1", x.doubles(0, 0), 2);
        x.subscribe(1, false);
        Check.same("19: by 2 and by 2", x.doubles(0, 0), 2);
        LinkResolver y = one(0, 15, 1);
        y.subscribe(0, true);
        y.come(0, 0, 0, 55, 0);
        y.pass(720);
        Check.same("19: one package by 1 and 2", y.doubles(0, 0), 0);
    }

    /** From no year to all 56, of titles that begin in each of them. */
    private static void doublesOfAllYears() {
        LinkResolver x = new LinkResolver();
        for (int title = 0; title < 20; title++) {
            x.addTitle(title * 55 / 19, 1);
        }
        for (int pack = 0; pack < 10; pack++) {
            x.addPackage(0, 0, 15, 0);
            x.subscribe(pack, true);
            for (int title = 0; title < 20; title++) {
                x.come(pack, title, 0, 55, 0);
            }
        }
        Check.same("19: the year 0 on the first day", x.doubles(0, 0), 1);
        Check.same("19: the year 2 on the first day", x.doubles(1, 0), 0);
        x.pass(720);
        Check.same("19: three years", x.doubles(0, 3), 3);
        Check.same("19: the first year is today's", x.doubles(1, 3), 1);
        x.pass(20000 - 720);
        for (int title = 0; title < 20; title++) {
            Check.same("19: all years of the title " + title, x.doubles(title, 3), 56 - title * 55 / 19);
        }
    }

    private static void doublesRefuse() {
        LinkResolver x = one(0, 15, 1);
        for (int far : FAR) {
            Check.index("19: title " + far, () -> x.doubles(far, 0));
            Check.argument("19: group " + far, () -> x.doubles(0, far));
        }
        Check.argument("19: group 4", () -> x.doubles(0, 4));
        Check.index("19: the title comes first", () -> x.doubles(1, 4));
    }

    private static void needless() {
        LinkResolver x = one(1, 15, 0);
        Check.yes("20: it covers nothing", x.isNeedless(0));
        x.subscribe(0, true);
        x.come(0, 0, 0, 55, 0);
        Check.yes("20: nothing from the first year of the title", x.isNeedless(0));
        x.pass(360);
        Check.no("20: the year 1 would be lost", x.isNeedless(0));
        x.addPackage(0, 0, 15, 0);
        x.subscribe(1, true);
        Check.yes("20: another one without the title", x.isNeedless(1));
        x.come(1, 0, 1, 1, 0);
        Check.yes("20: another one covers it", x.isNeedless(0));
        Check.yes("20: and the other way round", x.isNeedless(1));
        x.pass(360);
        Check.no("20: the year 2 would be lost", x.isNeedless(0));
        Check.yes("20: the other one has the year 1 alone", x.isNeedless(1));
        x.come(1, 0, 2, 2, 0);
        Check.no("20: the year 1 would be lost now", x.isNeedless(0));
        x.come(1, 0, 1, 2, 0);
        Check.yes("20: both years are covered", x.isNeedless(0));
        x.addTitle(0, 1);
        x.come(0, 1, 2, 2, 0);
        Check.no("20: of another title", x.isNeedless(0));
        x.subscribe(0, false);
        Check.yes("20: cancelled, it covers nothing", x.isNeedless(0));
        Check.no("20: the other one is the only one then", x.isNeedless(1));
    }

    private static void needlessByItself() {
        LinkResolver x = one(0, 15, 1);
        x.subscribe(0, true);
        x.come(0, 0, 0, 0, 0);
        Check.no("20: the year has not ended", x.isNeedless(0));
        x.pass(359);
        Check.no("20: the last day of the year", x.isNeedless(0));
        x.pass(1);
        Check.yes("20: the year is kept by itself", x.isNeedless(0));
        x.come(0, 0, 0, 1, 0);
        Check.no("20: the year 1 is not", x.isNeedless(0));
        x.addPackage(0, 0, 15, 0);
        x.subscribe(1, true);
        x.come(1, 0, 0, 0, 0);
        Check.no("20: the other one covers the year 0", x.isNeedless(0));
        Check.yes("20: which is kept by the first one", x.isNeedless(1));
        x.subscribe(0, false);
        Check.yes("20: it is kept though cancelled", x.isNeedless(1));
    }

    private static void needlessGroups() {
        LinkResolver x = one(0, 12, 0);
        x.addPackage(0, 0, 4, 0);
        x.addPackage(0, 0, 3, 0);
        for (int pack = 0; pack < 3; pack++) {
            x.subscribe(pack, true);
            x.come(pack, 0, 0, 0, 0);
        }
        Check.no("20: the group 3 has no other one", x.isNeedless(0));
        Check.yes("20: the group 2 has another one", x.isNeedless(1));
        Check.no("20: the groups 0 and 1 have none", x.isNeedless(2));
        x.addPackage(0, 0, 8, 0);
        x.subscribe(3, true);
        x.come(3, 0, 0, 0, 0);
        Check.yes("20: each group has another one", x.isNeedless(0));
        x.addPackage(0, 0, 0, 0);
        x.subscribe(4, true);
        x.come(4, 0, 0, 0, 0);
        Check.yes("20: no group is let in", x.isNeedless(4));
    }

    /** Each group alone makes a package needed. */
    private static void needlessByOneGroup() {
        for (int group = 0; group <= 3; group++) {
            LinkResolver x = one(0, 15, 0);
            x.addPackage(0, 0, 15 - (1 << group), 0);
            x.addPackage(0, 0, 1 << group, 0);
            for (int pack = 0; pack < 3; pack++) {
                x.come(pack, 0, 0, 55, 0);
                x.subscribe(pack, true);
            }
            Check.yes("20: two share the groups, " + group, x.isNeedless(0));
            x.subscribe(2, false);
            Check.no("20: the group " + group + " would lose", x.isNeedless(0));
            Check.yes("20: all the others would not", x.isNeedless(1));
            x.subscribe(2, true);
            x.subscribe(1, false);
            Check.no("20: all groups but " + group + " would lose", x.isNeedless(0));
        }
    }

    /** Of all years from the first one of the title to that of today, each makes a package needed. */
    private static void needlessByOneYear() {
        for (int year = 0; year <= 55; year++) {
            LinkResolver x = one(year, 15, 0);
            x.subscribe(0, true);
            x.come(0, 0, year, year, 0);
            if (year > 0) {
                x.pass(360 * year - 1);
                Check.yes("20: the year " + year + " is to come", x.isNeedless(0));
                x.pass(1);
            }
            Check.no("20: the year " + year + " is today's", x.isNeedless(0));
            x.pass(20000 - 360 * year);
            Check.no("20: the year " + year + " has been", x.isNeedless(0));
            if (year > 0) {
                x.come(0, 0, 0, year - 1, 0);
                Check.yes("20: the years before " + year + " don't matter", x.isNeedless(0));
            }
            x.addTitle(55, 1);
            x.come(0, 1, 55, 55, 0);
            Check.no("20: another title matters", x.isNeedless(0));
        }
    }

    /** What another package keeps covers too; what it covered yesterday, or for others, does not. */
    private static void needlessByAnother() {
        LinkResolver x = one(0, 15, 0);
        x.addPackage(0, 0, 15, 1);
        for (int pack = 0; pack < 2; pack++) {
            x.subscribe(pack, true);
            x.come(pack, 0, 0, 0, 0);
        }
        x.pass(359);
        Check.yes("20: the other one covers it by 1", x.isNeedless(0));
        x.subscribe(1, false);
        Check.no("20: the other one is cancelled on the last day", x.isNeedless(0));
        x.subscribe(1, true);
        x.pass(1);
        x.subscribe(1, false);
        Check.yes("20: the other one covers it by 2", x.isNeedless(0));
        Check.yes("20: cancelled, it needs nothing", x.isNeedless(1));
        x.go(0, 0);
        Check.yes("20: the title is gone", x.isNeedless(0));
        Check.yes("20: the other one keeps it by itself", x.isNeedless(1));
        x.report(1, 0);
        x.report(1, 0);
        x.come(0, 0, 0, 0, 0);
        Check.yes("20: a broken way covers too", x.isNeedless(0));
    }

    private static void needlessRefuses() {
        LinkResolver x = one(0, 15, 1);
        for (int far : FAR) {
            Check.index("20: package " + far, () -> x.isNeedless(far));
        }
        Check.index("20: package 1", () -> x.isNeedless(1));
    }

    private static void lastDayLastYear() {
        LinkResolver x = new LinkResolver();
        for (int title = 0; title < 20; title++) {
            x.addTitle(title == 19 ? 55 : 0, 1);
        }
        for (int pack = 0; pack < 10; pack++) {
            x.addPackage(pack, 0, 15, 1);
        }
        x.subscribe(9, true);
        x.come(9, 19, 0, 55, 0);
        x.pass(19799);
        Check.same("18: the year 54", x.gap(19, 3), -1);
        Check.no("15: the year 55 is to come", x.covers(9, 19, 55, 3, 19799));
        x.pass(201);
        Check.yes("15: the year 55", x.covers(9, 19, 55, 3, 20000));
        Check.same("16: the year 55", x.ways(19, 55, 3, 20000), 1);
        Check.same("17: the year 55", x.wayAt(0, 19, 55, 3, 20000), 9);
        Check.same("18: the year 55", x.gap(19, 3), -1);
        Check.no("20: the year 55 would be lost", x.isNeedless(9));
        x.subscribe(8, true);
        x.come(8, 19, 55, 55, 0);
        Check.same("19: the year 55", x.doubles(19, 3), 1);
        Check.yes("20: the year 55 has another one", x.isNeedless(9));
        x.subscribe(8, false);
        x.subscribe(9, false);
        Check.no("15: the year 55 never ends", x.covers(9, 19, 55, 3, 20000));
        Check.yes("15: the year 54 is kept", x.covers(9, 19, 54, 3, 20000));
        Check.same("18: the year 55 is lost", x.gap(19, 3), 55);
        Check.same("18: another title", x.gap(18, 3), 0);
    }

    /** All of the 512 calls may be changes, of one and the same package. */
    private static void allCallsAreChanges() {
        LinkResolver x = one(0, 15, 1);
        for (int i = 0; i < 250; i++) {
            Check.same("6: change " + i, x.subscribe(0, i % 2 == 0) ? 1 : 0, i % 2);
            Check.same("7: change " + i, x.come(0, 0, 0, i % 56, 0) ? 1 : 0, i == 0 ? 0 : 1);
        }
        Check.yes("7: the last change", x.come(0, 0, 0, 0, 0));
        Check.no("6: the last change", x.subscribe(0, true));
        x.pass(360);
        x.subscribe(0, false);
        Check.yes("15: after 505 calls", x.covers(0, 0, 0, 0, 360));
        Check.no("11: after 505 calls", x.isSubscribed(0, 360));
        Check.yes("11: the first day, after 505 calls", x.isSubscribed(0, 0));
    }
}
