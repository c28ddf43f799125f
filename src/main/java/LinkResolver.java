/**
 * A resolver of citations to copies: which packages lead to an article, on any day that has been.
 *
 * <p>Sets of years are kept as the bits 0 to 55 of a long, so that a question about all years of a
 * title costs no more than one about a single year.
 */
public final class LinkResolver {
    /** There is none. */
    public static final int NONE = -1;

    private static final int MOST_TITLES = 20;
    private static final int MOST_PACKS = 10;
    private static final int MOST_VOLUMES = 4;
    private static final int MOST_COST = 1000;
    private static final int MOST_VERSION = 2;
    private static final int MOST_WALL = 20;
    private static final int LAST_GROUP = 3;
    private static final int ALL_GROUPS = 15;
    private static final int LAST_DAY = 20000;
    private static final int LAST_YEAR = 55;
    private static final int DAYS_A_YEAR = 360;
    private static final int BREAKS_THAT_COUNT = 2;
    private static final long ALL_YEARS = (1L << (LAST_YEAR + 1)) - 1;

    /** An object is used for 512 calls, and a call makes one change at most. */
    private static final int MOST_CHANGES = 512;

    private final Title[] titles;
    private final Pack[] packs;
    private int titleCount;
    private int packCount;
    private int changeCount;
    private int currentDay;

    public LinkResolver() {
        titles = new Title[MOST_TITLES];
        packs = new Pack[MOST_PACKS];
        titleCount = 0;
        packCount = 0;
        changeCount = 0;
        currentDay = 0;
    }

    // ---- titles

    public int addTitle(int firstYear, int volumes)
            throws IllegalArgumentException, IllegalStateException {
        checkRange(firstYear, 0, LAST_YEAR);
        checkRange(volumes, 1, MOST_VOLUMES);
        int number = titleCount;
        if (number >= MOST_TITLES) {
            throw new IllegalStateException("there are 20 titles");
        }
        titles[number] = new Title(firstYear, volumes);
        titleCount = number + 1;
        return number;
    }

    public int yearOf(int title, int volume)
            throws IndexOutOfBoundsException, IllegalArgumentException {
        Title asked = existingTitle(title);
        checkRange(volume, 1, asked.firstVolume(LAST_YEAR + 1) - 1);
        int year = asked.firstYear;
        while (year < LAST_YEAR && asked.firstVolume(year + 1) <= volume) {
            year++;
        }
        return year;
    }

    public int volumeOf(int title, int year)
            throws IndexOutOfBoundsException, IllegalArgumentException {
        Title asked = existingTitle(title);
        checkRange(year, asked.firstYear, LAST_YEAR);
        return asked.firstVolume(year);
    }

    // ---- packages

    public int addPackage(int cost, int version, int groups, int keeps)
            throws IllegalArgumentException, IllegalStateException {
        checkRange(cost, 0, MOST_COST);
        checkRange(version, 0, MOST_VERSION);
        checkRange(groups, 0, ALL_GROUPS);
        checkRange(keeps, 0, 1);
        int number = packCount;
        if (number >= MOST_PACKS) {
            throw new IllegalStateException("there are 10 packages");
        }
        packs[number] = new Pack(cost, version, groups, keeps == 1);
        packCount = number + 1;
        return number;
    }

    public boolean subscribe(int pack, boolean isOn) throws IndexOutOfBoundsException {
        History subscription = existingPack(pack).subscription;
        boolean was = subscription.isOnAt(currentDay);
        change(subscription, isOn ? ALL_YEARS : 0L, 0);
        return was;
    }

    public boolean come(int pack, int title, int first, int last, int wall)
            throws IndexOutOfBoundsException, IllegalArgumentException {
        History stay = existingStay(pack, title);
        checkRange(first, 0, LAST_YEAR);
        checkRange(last, first, LAST_YEAR);
        checkRange(wall, 0, MOST_WALL);
        boolean was = stay.isOnAt(currentDay);
        change(stay, yearsBetween(first, last), wall);
        return was;
    }

    public void go(int pack, int title) throws IndexOutOfBoundsException, IllegalStateException {
        History stay = existingStay(pack, title);
        if (!stay.isOnAt(currentDay)) {
            throw new IllegalStateException("the title is not in the package");
        }
        change(stay, 0L, 0);
    }

    public int pass(int days) throws IllegalArgumentException, IllegalStateException {
        checkRange(days, 1, LAST_DAY);
        if (days > LAST_DAY - currentDay) {
            throw new IllegalStateException("today would be above 20000");
        }
        currentDay += days;
        return currentDay;
    }

    public int today() {
        return currentDay;
    }

    public boolean isSubscribed(int pack, int day)
            throws IndexOutOfBoundsException, IllegalArgumentException {
        History subscription = existingPack(pack).subscription;
        checkRange(day, 0, currentDay);
        return subscription.isOnAt(day);
    }

    public boolean isIn(int pack, int title, int day)
            throws IndexOutOfBoundsException, IllegalArgumentException {
        History stay = existingStay(pack, title);
        checkRange(day, 0, currentDay);
        return stay.isOnAt(day);
    }

    // ---- breaks

    public int report(int pack, int title) throws IndexOutOfBoundsException {
        History stay = existingStay(pack, title);
        stay.breaks++;
        return stay.breaks;
    }

    public int mend(int pack, int title) throws IndexOutOfBoundsException {
        History stay = existingStay(pack, title);
        int mended = stay.breaks;
        stay.breaks = 0;
        return mended;
    }

    // ---- ways

    public boolean covers(int pack, int title, int year, int group, int day)
            throws IndexOutOfBoundsException, IllegalArgumentException {
        Pack asked = existingPack(pack);
        existingTitle(title);
        checkArticle(year, group, day);
        return isWay(asked, title, year, group, day);
    }

    public int ways(int title, int year, int group, int day)
            throws IndexOutOfBoundsException, IllegalArgumentException {
        existingTitle(title);
        checkArticle(year, group, day);
        return Integer.bitCount(waysTo(title, year, group, day));
    }

    public int wayAt(int place, int title, int year, int group, int day)
            throws IllegalArgumentException, IndexOutOfBoundsException {
        checkArticle(year, group, day);
        existingTitle(title);
        int all = waysTo(title, year, group, day);
        for (int pack = 0; pack < packCount; pack++) {
            if (isAmong(all, pack) && placeAmong(all, pack, title) == place) {
                return pack;
            }
        }
        throw new IndexOutOfBoundsException("no such place");
    }

    public int gap(int title, int group)
            throws IndexOutOfBoundsException, IllegalArgumentException {
        Title asked = existingTitle(title);
        checkRange(group, 0, LAST_GROUP);
        long without = yearsSoFar(asked) & ~yearsCoveredButBy(NONE, title, group);
        for (int year = asked.firstYear; year <= LAST_YEAR; year++) {
            if (hasYear(without, year)) {
                return year;
            }
        }
        return NONE;
    }

    public int doubles(int title, int group)
            throws IndexOutOfBoundsException, IllegalArgumentException {
        Title asked = existingTitle(title);
        checkRange(group, 0, LAST_GROUP);
        long once = 0L;
        long twice = 0L;
        for (int number = 0; number < packCount; number++) {
            Pack way = existingPack(number);
            if (way.letsIn(group)) {
                long years = way.yearsCovered(title, currentDay);
                twice |= once & years;
                once |= years;
            }
        }
        return Long.bitCount(twice & yearsSoFar(asked));
    }

    public boolean isNeedless(int pack) throws IndexOutOfBoundsException {
        existingPack(pack);
        for (int title = 0; title < titleCount; title++) {
            if (isLostWithout(pack, title)) {
                return false;
            }
        }
        return true;
    }

    // ---- what the calls share

    private static void checkRange(int value, int least, int most) throws IllegalArgumentException {
        if (value < least || value > most) {
            throw new IllegalArgumentException("an argument is out of range");
        }
    }

    private void checkArticle(int year, int group, int day) throws IllegalArgumentException {
        checkRange(year, 0, LAST_YEAR);
        checkRange(group, 0, LAST_GROUP);
        checkRange(day, 0, currentDay);
    }

    private Title existingTitle(int title) throws IndexOutOfBoundsException {
        if (title < 0 || title >= titleCount || titles[title] == null) {
            throw new IndexOutOfBoundsException("no such title");
        }
        return titles[title];
    }

    private Pack existingPack(int pack) throws IndexOutOfBoundsException {
        if (pack < 0 || pack >= packCount || packs[pack] == null) {
            throw new IndexOutOfBoundsException("no such package");
        }
        return packs[pack];
    }

    private History existingStay(int pack, int title) throws IndexOutOfBoundsException {
        Pack holder = existingPack(pack);
        existingTitle(title);
        return holder.stayOf(title);
    }

    /** A change above the limit is not kept: it can only come after the 512th call. */
    private void change(History history, long years, int wall) {
        if (changeCount < MOST_CHANGES) {
            changeCount++;
            history.add(currentDay, years, wall);
        }
    }

    private static boolean isWay(Pack pack, int title, int year, int group, int day) {
        return pack.letsIn(group) && hasYear(pack.yearsCovered(title, day), year);
    }

    /** The ways to an article as a set: bit p stands for the package p. */
    private int waysTo(int title, int year, int group, int day) {
        int all = 0;
        for (int number = 0; number < packCount; number++) {
            if (isWay(existingPack(number), title, year, group, day)) {
                all |= 1 << number;
            }
        }
        return all;
    }

    private static boolean isAmong(int all, int pack) {
        return (all >> pack & 1) == 1;
    }

    private int placeAmong(int all, int pack, int title) {
        int place = 0;
        for (int other = 0; other < packCount; other++) {
            if (other != pack && isAmong(all, other) && isAhead(other, pack, title)) {
                place++;
            }
        }
        return place;
    }

    private boolean isAhead(int one, int other, int title) {
        Pack a = existingPack(one);
        Pack b = existingPack(other);
        boolean isBroken = a.isBroken(title);
        if (isBroken != b.isBroken(title)) {
            return !isBroken;
        }
        if (a.cost != b.cost) {
            return a.cost < b.cost;
        }
        if (a.version != b.version) {
            return a.version < b.version;
        }
        return one < other;
    }

    /** The years of a title that the gaps, the doubles and the needless packages are asked about. */
    private long yearsSoFar(Title title) {
        return yearsBetween(title.firstYear, currentDay / DAYS_A_YEAR);
    }

    private long yearsCoveredButBy(int left, int title, int group) {
        long years = 0L;
        for (int number = 0; number < packCount; number++) {
            Pack way = existingPack(number);
            if (number != left && way.letsIn(group)) {
                years |= way.yearsCovered(title, currentDay);
            }
        }
        return years;
    }

    private boolean isLostWithout(int pack, int title) {
        Pack asked = existingPack(pack);
        long atStake = asked.yearsOpen(title, currentDay)
                & ~asked.yearsKept(title, currentDay)
                & yearsSoFar(existingTitle(title));
        if (atStake == 0L) {
            return false;
        }
        for (int group = 0; group <= LAST_GROUP; group++) {
            if (asked.letsIn(group) && (atStake & ~yearsCoveredButBy(pack, title, group)) != 0L) {
                return true;
            }
        }
        return false;
    }

    private static long yearsBetween(int first, int last) {
        return first > last ? 0L : ((1L << (last - first + 1)) - 1) << first;
    }

    private static boolean hasYear(long years, int year) {
        return (years >> year & 1L) == 1L;
    }

    private static final class Title {
        final int firstYear;
        final int volumes;

        Title(int firstYear, int volumes) {
            this.firstYear = firstYear;
            this.volumes = volumes;
        }

        int firstVolume(int year) {
            return (year - firstYear) * volumes + 1;
        }
    }

    private static final class Pack {
        final int cost;
        final int version;
        final int groups;
        final boolean isKeeping;
        final History subscription;
        final History[] stays;

        Pack(int cost, int version, int groups, boolean isKeeping) {
            this.cost = cost;
            this.version = version;
            this.groups = groups;
            this.isKeeping = isKeeping;
            subscription = new History();
            stays = new History[MOST_TITLES];
            for (int title = 0; title < MOST_TITLES; title++) {
                stays[title] = new History();
            }
        }

        History stayOf(int title) throws IndexOutOfBoundsException {
            if (title < 0 || title >= stays.length || stays[title] == null) {
                throw new IndexOutOfBoundsException("no such title");
            }
            return stays[title];
        }

        boolean letsIn(int group) {
            return (groups >> group & 1) == 1;
        }

        boolean isBroken(int title) {
            return stayOf(title).breaks >= BREAKS_THAT_COUNT;
        }

        long yearsCovered(int title, int day) {
            return yearsOpen(title, day) | yearsKept(title, day);
        }

        /** Coverage 1. */
        long yearsOpen(int title, int day) {
            return stayOf(title).yearsOpen(day) & subscription.yearsOpen(day);
        }

        /** Coverage 2. */
        long yearsKept(int title, int day) {
            if (!isKeeping) {
                return 0L;
            }
            long years = stayOf(title).yearsKept(day);
            return years == 0L ? 0L : years & subscription.yearsKept(day);
        }
    }

    /**
     * What counts from which day on, of a subscription or of a title's stay in a package. A
     * subscription counts as a stay of all years without a wall, so that a package covers what its
     * subscription and the stay of the title have in common.
     */
    private static final class History {
        Change newest;
        /** Of stays alone, and of now: which day is asked about does not matter to them. */
        int breaks;

        History() {
            newest = null;
            breaks = 0;
        }

        void add(int day, long years, int wall) {
            newest = new Change(day, years, wall, newest);
        }

        Change changeAt(int day) {
            Change change = newest;
            while (change != null && change.day > day) {
                change = change.before;
            }
            return change;
        }

        boolean isOnAt(int day) {
            Change change = changeAt(day);
            return change != null && change.years != 0L;
        }

        long yearsOpen(int day) {
            Change change = changeAt(day);
            return change == null
                    ? 0L
                    : change.years & yearsBetween(0, day / DAYS_A_YEAR - change.wall);
        }

        /** A change counts for the years whose last day lies before the next one, and before the day. */
        long yearsKept(int day) {
            int thisYear = day / DAYS_A_YEAR;
            int until = day;
            long years = 0L;
            for (Change change = newest; change != null; change = change.before) {
                int firstEnding = change.day / DAYS_A_YEAR;
                int lastEnding = until / DAYS_A_YEAR - 1;
                int lastFree = thisYear - change.wall;
                years |= change.years & yearsBetween(firstEnding, Math.min(lastEnding, lastFree));
                until = Math.min(until, change.day);
            }
            return years;
        }
    }

    /** The years that count from a day on; none of them means cancelled, or gone. */
    private static final class Change {
        final int day;
        final long years;
        final int wall;
        final Change before;

        Change(int day, long years, int wall, Change before) {
            this.day = day;
            this.years = years;
            this.wall = wall;
            this.before = before;
        }
    }
}
