/** The boundaries that the section "Terms" names, sentence by sentence. */
public final class TermsTest {
    private static final int LAST_DAY = 20000;

    public static void main(String[] args) {
        Check.begin();
        daysFrom0To20000();
        yearsBeginEvery360Days();
        yearsEndOnTheirLastDay();
        theYear55HasNoLastDay();
        changesCountFromTheirDay();
        theLastChangeOfADayCounts();
        newYearsAndWallCountFromTheirDay();
        groupsAreASet();
        firstYearOfTheTitleDoesNotMatter();
        everyYearFromFirstToLast();
        everyWall();
        wallsReachBehindTheYear0();
        keptNeedsEachOfItsConditions();
        keptIsOfThatDayNotOfLater();
        keptByTheWallOfThen();
        all512CallsCount();
        all512CallsMayBeOfOneDay();
        Check.end();
    }

    /** One title from the year 0 on, one package for all readers. */
    private static LinkResolver one(int keeps) {
        LinkResolver x = new LinkResolver();
        x.addTitle(0, 1);
        x.addPackage(0, 0, 15, keeps);
        return x;
    }

    /** The same with the title in the package, for all years, and subscribed to. */
    private static LinkResolver open(int keeps, int wall) {
        LinkResolver x = one(keeps);
        x.come(0, 0, 0, 55, wall);
        x.subscribe(0, true);
        return x;
    }

    private static void is(String call, boolean got, boolean due) {
        Check.same(call, got ? 1 : 0, due ? 1 : 0);
    }

    private static void daysFrom0To20000() {
        LinkResolver x = one(0);
        Check.same("days: today at first", x.today(), 0);
        Check.argument("days: no day before 0", () -> x.isSubscribed(0, -1));
        Check.argument("days: no day to come", () -> x.isSubscribed(0, 1));
        x.subscribe(0, true);
        Check.same("days: the last one", x.pass(LAST_DAY), LAST_DAY);
        Check.yes("days: the first day is remembered", x.isSubscribed(0, 0));
        x.subscribe(0, false);
        Check.yes("days: the last but one", x.isSubscribed(0, LAST_DAY - 1));
        Check.no("days: a change on the last one counts", x.isSubscribed(0, LAST_DAY));
        Check.argument("days: none behind it", () -> x.isSubscribed(0, LAST_DAY + 1));
        Check.state("days: none can pass", () -> x.pass(1));
    }

    private static void yearsBeginEvery360Days() {
        LinkResolver x = open(0, 0);
        x.pass(LAST_DAY);
        for (int year = 0; year <= 55; year++) {
            if (year > 0) {
                Check.no("years: " + year + " on the day before its first", x.covers(0, 0, year, 0, 360 * year - 1));
            }
            Check.yes("years: " + year + " on its first day", x.covers(0, 0, year, 0, 360 * year));
            LinkResolver y = new LinkResolver();
            y.addTitle(year, 1);
            if (year > 0) {
                y.pass(360 * year - 1);
                Check.same("years: no gap before the year " + year, y.gap(0, 0), LinkResolver.NONE);
                y.pass(1);
            }
            Check.same("years: a gap from the first day of " + year, y.gap(0, 0), year);
        }
    }

    private static void yearsEndOnTheirLastDay() {
        for (int year = 0; year <= 54; year++) {
            int end = 360 * year + 359;
            LinkResolver x = new LinkResolver();
            x.addTitle(0, 1);
            for (int pack = 0; pack < 4; pack++) {
                x.addPackage(0, 0, 15, 1);
                x.come(pack, 0, 0, 55, 0);
            }
            x.subscribe(0, true);
            x.pass(end - 1);
            x.subscribe(1, true);
            x.pass(1);
            x.subscribe(0, false);
            x.subscribe(2, true);
            x.pass(1);
            x.subscribe(1, false);
            x.subscribe(2, false);
            x.subscribe(3, true);
            x.subscribe(3, false);
            Check.no("last days: cancelled on that of " + year, x.covers(0, 0, year, 0, end + 1));
            Check.yes("last days: cancelled the day after that of " + year, x.covers(1, 0, year, 0, end + 1));
            Check.yes("last days: subscribed to on that of " + year, x.covers(2, 0, year, 0, end + 1));
            Check.no("last days: subscribed to the day after that of " + year, x.covers(3, 0, year, 0, end + 1));
            Check.no("last days: it is not earlier than itself, " + year, x.covers(0, 0, year, 0, end));
            Check.same("last days: the ways on that of " + year, x.ways(0, year, 0, end), 2);
            Check.same("last days: the ways the day after that of " + year, x.ways(0, year, 0, end + 1), 2);
        }
    }

    private static void theYear55HasNoLastDay() {
        LinkResolver x = open(1, 0);
        x.pass(LAST_DAY);
        Check.yes("last days: the year 55, by 1", x.covers(0, 0, 55, 0, LAST_DAY));
        Check.no("last days: the year 55 is not kept", x.isNeedless(0));
        x.subscribe(0, false);
        Check.no("last days: the year 55 is lost", x.covers(0, 0, 55, 0, LAST_DAY));
        Check.yes("last days: the year 54 is not", x.covers(0, 0, 54, 0, LAST_DAY));
        Check.yes("last days: the year 0 is not", x.covers(0, 0, 0, 0, LAST_DAY));
    }

    private static void changesCountFromTheirDay() {
        LinkResolver x = one(0);
        x.pass(4);
        x.come(0, 0, 0, 55, 0);
        x.pass(1);
        x.subscribe(0, true);
        x.pass(3);
        x.subscribe(0, false);
        x.pass(1);
        x.go(0, 0);
        x.pass(1);
        for (int day = 0; day <= 10; day++) {
            is("changes: in on the day " + day, x.isIn(0, 0, day), day >= 4 && day < 9);
            is("changes: subscribed to on the day " + day, x.isSubscribed(0, day), day >= 5 && day < 8);
            is("changes: covered on the day " + day, x.covers(0, 0, 0, 0, day), day >= 5 && day < 8);
        }
    }

    private static void theLastChangeOfADayCounts() {
        LinkResolver x = one(0);
        x.pass(3);
        x.subscribe(0, true);
        x.subscribe(0, false);
        x.subscribe(0, true);
        x.come(0, 0, 0, 55, 0);
        x.go(0, 0);
        x.come(0, 0, 5, 9, 0);
        x.come(0, 0, 0, 0, 0);
        x.pass(1);
        Check.no("changes: not the day before", x.isSubscribed(0, 2));
        Check.no("changes: nor in it the day before", x.isIn(0, 0, 2));
        for (int day = 3; day <= 4; day++) {
            Check.yes("changes: on, off, on: on, on the day " + day, x.isSubscribed(0, day));
            Check.yes("changes: in, out, in: in, on the day " + day, x.isIn(0, 0, day));
            Check.yes("changes: the years of the last one, on the day " + day, x.covers(0, 0, 0, 0, day));
        }
        x.go(0, 0);
        x.subscribe(0, false);
        Check.no("changes: out again", x.isIn(0, 0, 4));
        Check.no("changes: off again", x.isSubscribed(0, 4));
        Check.yes("changes: in on the day before that", x.isIn(0, 0, 3));
        Check.yes("changes: on, on the day before that", x.isSubscribed(0, 3));
    }

    private static void newYearsAndWallCountFromTheirDay() {
        LinkResolver x = one(0);
        x.subscribe(0, true);
        x.pass(3600);
        x.come(0, 0, 2, 4, 0);
        x.pass(1);
        x.come(0, 0, 3, 9, 3);
        x.pass(1);
        x.go(0, 0);
        x.come(0, 0, 0, 3, 8);
        for (int year = 0; year <= 11; year++) {
            is("comes: the year " + year + " before", x.covers(0, 0, year, 0, 3599), false);
            is("comes: the year " + year + " at first", x.covers(0, 0, year, 0, 3600), year >= 2 && year <= 4);
            is("comes: the year " + year + " when it comes again", x.covers(0, 0, year, 0, 3601),
                    year >= 3 && year <= 7);
            is("comes: the year " + year + " when it has gone between", x.covers(0, 0, year, 0, 3602), year <= 2);
        }
    }

    private static void groupsAreASet() {
        for (int groups = 0; groups <= 15; groups++) {
            LinkResolver x = new LinkResolver();
            x.addTitle(0, 1);
            x.addPackage(0, 0, groups, 1);
            x.come(0, 0, 0, 55, 0);
            x.subscribe(0, true);
            x.pass(360);
            x.go(0, 0);
            int in = 0;
            for (int group = 0; group <= 3; group++) {
                is("groups: " + group + " of " + groups + ", by 1", x.covers(0, 0, 0, group, 0),
                        (groups >> group & 1) == 1);
                is("groups: " + group + " of " + groups + ", by 2", x.covers(0, 0, 0, group, 360),
                        (groups >> group & 1) == 1);
                in += x.ways(0, 0, group, 360);
            }
            Check.same("groups: how many of " + groups, in, Integer.bitCount(groups));
        }
    }

    private static void firstYearOfTheTitleDoesNotMatter() {
        LinkResolver x = new LinkResolver();
        x.addTitle(55, 1);
        x.addPackage(0, 0, 15, 1);
        x.subscribe(0, true);
        x.come(0, 0, 0, 55, 0);
        Check.yes("coverage: by 1, before the first year of the title", x.covers(0, 0, 0, 0, 0));
        Check.same("coverage: a way before the first year of the title", x.ways(0, 0, 0, 0), 1);
        x.pass(360);
        x.go(0, 0);
        Check.yes("coverage: by 2, before the first year of the title", x.covers(0, 0, 0, 0, 360));
        Check.same("coverage: a kept way before it", x.wayAt(0, 0, 0, 0, 360), 0);
    }

    private static void everyYearFromFirstToLast() {
        for (int first = 0; first <= 55; first += 5) {
            for (int last = first; last <= 55; last += 5) {
                for (int keeps = 0; keeps <= 1; keeps++) {
                    LinkResolver x = one(keeps);
                    x.subscribe(0, true);
                    x.come(0, 0, first, last, 0);
                    x.pass(LAST_DAY - 1);
                    x.subscribe(0, keeps == 0);
                    // The year 55 does not end, so that it is never kept.
                    int end = keeps == 0 ? last : Math.min(last, 54);
                    for (int year = 0; year <= 55; year++) {
                        is("coverage: " + first + " to " + last + " by " + (keeps + 1) + ", the year " + year,
                                x.covers(0, 0, year, 0, LAST_DAY - 1), year >= first && year <= end);
                    }
                }
            }
        }
    }

    /** The wall moves on by a year on the first day of each year, by 1 and by 2. */
    private static void everyWall() {
        for (int wall = 0; wall <= 20; wall++) {
            for (int keeps = 0; keeps <= 1; keeps++) {
                LinkResolver x = open(keeps, wall);
                x.pass(7200);
                x.subscribe(0, keeps == 0);
                x.pass(LAST_DAY - 7200);
                for (int year = 0; year <= 55; year++) {
                    int from = 360 * (year + wall);
                    boolean isAsked = from <= LAST_DAY && (keeps == 0 || year < 20);
                    if (isAsked) {
                        Check.yes("walls: " + wall + " by " + (keeps + 1) + ", the year " + year + " from then on",
                                x.covers(0, 0, year, 0, from));
                    }
                    if (isAsked && from > 0) {
                        Check.no("walls: " + wall + " by " + (keeps + 1) + ", the year " + year + " the day before",
                                x.covers(0, 0, year, 0, from - 1));
                    }
                }
            }
        }
    }

    private static void wallsReachBehindTheYear0() {
        LinkResolver x = open(1, 20);
        for (int year = 0; year <= 55; year++) {
            Check.no("walls: 20 in the year 0, the year " + year, x.covers(0, 0, year, 0, 0));
        }
        Check.same("walls: the year 0 is a gap", x.gap(0, 0), 0);
        Check.yes("walls: nothing is lost", x.isNeedless(0));
        x.pass(360);
        x.subscribe(0, false);
        for (int year = 0; year <= 55; year++) {
            Check.no("walls: 20 of then in the year 1, the year " + year, x.covers(0, 0, year, 0, 360));
        }
    }

    /** Of seven packages each one lacks something on the last day of the year 2, but for the first. */
    private static void keptNeedsEachOfItsConditions() {
        LinkResolver x = new LinkResolver();
        x.addTitle(0, 1);
        for (int pack = 0; pack < 7; pack++) {
            x.addPackage(0, 0, pack == 1 ? 7 : 15, pack == 2 ? 0 : 1);
            x.come(pack, 0, pack == 3 ? 3 : 2, 55, 0);
            x.subscribe(pack, true);
        }
        x.come(4, 0, 0, 1, 0);
        x.pass(1079);
        x.subscribe(5, false);
        x.go(6, 0);
        Check.same("kept: the ways on the last day by 1", x.ways(0, 2, 3, 1079), 2);
        x.pass(1);
        for (int pack = 0; pack < 7; pack++) {
            x.subscribe(pack, false);
        }
        Check.yes("kept: all of them hold", x.covers(0, 0, 2, 3, 1080));
        Check.no("kept: the group is not let in", x.covers(1, 0, 2, 3, 1080));
        Check.yes("kept: another group is", x.covers(1, 0, 2, 2, 1080));
        Check.no("kept: it keeps no years", x.covers(2, 0, 2, 3, 1080));
        Check.no("kept: the first year was later", x.covers(3, 0, 2, 3, 1080));
        Check.no("kept: the last year was earlier", x.covers(4, 0, 2, 3, 1080));
        Check.no("kept: it was not subscribed to", x.covers(5, 0, 2, 3, 1080));
        Check.no("kept: the title was not in it", x.covers(6, 0, 2, 3, 1080));
        Check.same("kept: one way", x.ways(0, 2, 3, 1080), 1);
    }

    private static void keptIsOfThatDayNotOfLater() {
        LinkResolver x = open(1, 0);
        x.pass(360);
        x.subscribe(0, false);
        x.come(0, 0, 55, 55, 20);
        x.pass(719);
        Check.yes("kept: whatever comes later", x.covers(0, 0, 0, 0, 1079));
        Check.no("kept: not subscribed to on the last day", x.covers(0, 0, 1, 0, 1079));
        x.subscribe(0, true);
        x.come(0, 0, 0, 55, 0);
        Check.yes("kept: today by 1", x.covers(0, 0, 1, 0, 1079));
        Check.no("kept: as of the day before", x.covers(0, 0, 1, 0, 1078));
        x.subscribe(0, false);
        Check.no("kept: a subscription of later does not help", x.covers(0, 0, 1, 0, 1079));
        x.pass(LAST_DAY - 1079);
        Check.yes("kept: for ever", x.covers(0, 0, 0, 0, LAST_DAY));
        Check.no("kept: never", x.covers(0, 0, 1, 0, LAST_DAY));
    }

    private static void keptByTheWallOfThen() {
        LinkResolver x = open(1, 20);
        x.pass(360);
        x.come(0, 0, 0, 55, 2);
        x.pass(360);
        x.subscribe(0, false);
        x.pass(LAST_DAY - 720);
        Check.no("kept: the year 0 behind a wall of 20", x.covers(0, 0, 0, 0, 7199));
        Check.yes("kept: the year 0 at 20 years", x.covers(0, 0, 0, 0, 7200));
        Check.no("kept: the year 1 behind a wall of 2", x.covers(0, 0, 1, 0, 1079));
        Check.yes("kept: the year 1 at 2 years", x.covers(0, 0, 1, 0, 1080));
    }

    /** With the last of the 512 calls the first day is asked about, and each day has a change. */
    private static void all512CallsCount() {
        LinkResolver x = open(1, 0);
        int calls = 4;
        while (calls < 508) {
            x.pass(1);
            x.subscribe(0, calls % 4 != 0);
            calls += 2;
        }
        Check.same("512 calls: the 509th", x.today(), 252);
        Check.no("512 calls: the 510th", x.isSubscribed(0, 1));
        Check.yes("512 calls: the 511th", x.isSubscribed(0, 252));
        Check.yes("512 calls: the 512th", x.covers(0, 0, 0, 0, 0));
    }

    private static void all512CallsMayBeOfOneDay() {
        LinkResolver x = open(1, 0);
        // The last one, behind 510 calls, has the first year 0 again.
        for (int calls = 4; calls < 511; calls++) {
            x.come(0, 0, calls % 2, 55, 0);
        }
        Check.yes("512 calls: the 512th of one day", x.covers(0, 0, 0, 0, 0));
    }
}
