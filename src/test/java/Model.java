import java.util.ArrayList;
import java.util.Arrays;
import java.util.List;

/**
 * The document's words as they stand: every change is told again from the first one whenever a day
 * is asked about. Slow, and written apart from the program, so that both can be compared.
 */
final class Model {
    private record Title(int firstYear, int volumes) {
    }

    private record Pack(int cost, int version, int groups, int keeps) {
    }

    /** Of a subscription the title is -1. */
    private record Change(int day, int pack, int title, boolean isOn, int first, int last, int wall) {
    }

    private final List<Title> titles = new ArrayList<>();
    private final List<Pack> packs = new ArrayList<>();
    private final List<Change> changes = new ArrayList<>();
    private final int[][] breaks = new int[10][20];
    private int today = 0;

    /** The answer of a call, a boolean as 1 or 0, nothing as 0; or it throws as the document says. */
    long call(int which, int[] a) {
        switch (which) {
            case Calls.ADD_TITLE: return addTitle(a[0], a[1]);
            case Calls.YEAR_OF: return yearOf(a[0], a[1]);
            case Calls.VOLUME_OF: return volumeOf(a[0], a[1]);
            case Calls.ADD_PACKAGE: return addPackage(a[0], a[1], a[2], a[3]);
            case Calls.SUBSCRIBE: return subscribe(a[0], a[1] == 1);
            case Calls.COME: return come(a[0], a[1], a[2], a[3], a[4]);
            case Calls.GO: return go(a[0], a[1]);
            case Calls.PASS: return pass(a[0]);
            case Calls.TODAY: return today;
            case Calls.IS_SUBSCRIBED: pack(a[0]); range(a[1], 0, today); return bit(subscribed(a[0], a[1]));
            case Calls.IS_IN: pack(a[0]); title(a[1]); range(a[2], 0, today); return bit(isIn(a[0], a[1], a[2]));
            case Calls.REPORT: pack(a[0]); title(a[1]); return ++breaks[a[0]][a[1]];
            case Calls.MEND: return mend(a[0], a[1]);
            case Calls.COVERS: pack(a[0]); title(a[1]); article(a[2], a[3], a[4]);
                return bit(covers(a[0], a[1], a[2], a[3], a[4]));
            case Calls.WAYS: title(a[0]); article(a[1], a[2], a[3]); return ways(a[0], a[1], a[2], a[3]).size();
            case Calls.WAY_AT: return wayAt(a[0], a[1], a[2], a[3], a[4]);
            case Calls.GAP: return gap(a[0], a[1]);
            case Calls.DOUBLES: return doubles(a[0], a[1]);
            case Calls.IS_NEEDLESS: return bit(isNeedless(a[0]));
            default: throw new IllegalArgumentException("no such call");
        }
    }

    int today() {
        return today;
    }

    int titles() {
        return titles.size();
    }

    int packs() {
        return packs.size();
    }

    private static long bit(boolean is) {
        return is ? 1 : 0;
    }

    private static void range(int value, int least, int most) {
        if (value < least || value > most) {
            throw new IllegalArgumentException();
        }
    }

    private void title(int title) {
        if (title < 0 || title >= titles.size()) {
            throw new IndexOutOfBoundsException();
        }
    }

    private void pack(int pack) {
        if (pack < 0 || pack >= packs.size()) {
            throw new IndexOutOfBoundsException();
        }
    }

    private void article(int year, int group, int day) {
        range(year, 0, 55);
        range(group, 0, 3);
        range(day, 0, today);
    }

    private long addTitle(int firstYear, int volumes) {
        range(firstYear, 0, 55);
        range(volumes, 1, 4);
        if (titles.size() == 20) {
            throw new IllegalStateException();
        }
        titles.add(new Title(firstYear, volumes));
        return titles.size() - 1;
    }

    private long yearOf(int title, int volume) {
        title(title);
        int at = 1;
        for (int year = titles.get(title).firstYear; year <= 55; year++) {
            for (int i = 0; i < titles.get(title).volumes; i++) {
                if (at == volume) {
                    return year;
                }
                at++;
            }
        }
        throw new IllegalArgumentException();
    }

    private long volumeOf(int title, int year) {
        title(title);
        range(year, titles.get(title).firstYear, 55);
        int at = 1;
        for (int y = titles.get(title).firstYear; y < year; y++) {
            at += titles.get(title).volumes;
        }
        return at;
    }

    private long addPackage(int cost, int version, int groups, int keeps) {
        range(cost, 0, 1000);
        range(version, 0, 2);
        range(groups, 0, 15);
        range(keeps, 0, 1);
        if (packs.size() == 10) {
            throw new IllegalStateException();
        }
        packs.add(new Pack(cost, version, groups, keeps));
        return packs.size() - 1;
    }

    private Change at(int pack, int title, int day) {
        Change at = null;
        for (Change c : changes) {
            if (c.pack == pack && c.title == title && c.day <= day) {
                at = c;
            }
        }
        return at;
    }

    private boolean subscribed(int pack, int day) {
        Change c = at(pack, -1, day);
        return c != null && c.isOn;
    }

    private boolean isIn(int pack, int title, int day) {
        Change c = at(pack, title, day);
        return c != null && c.isOn;
    }

    private long subscribe(int pack, boolean isOn) {
        pack(pack);
        boolean was = subscribed(pack, today);
        changes.add(new Change(today, pack, -1, isOn, 0, 0, 0));
        return bit(was);
    }

    private long come(int pack, int title, int first, int last, int wall) {
        pack(pack);
        title(title);
        range(first, 0, 55);
        range(last, first, 55);
        range(wall, 0, 20);
        boolean was = isIn(pack, title, today);
        changes.add(new Change(today, pack, title, true, first, last, wall));
        return bit(was);
    }

    private long go(int pack, int title) {
        pack(pack);
        title(title);
        if (!isIn(pack, title, today)) {
            throw new IllegalStateException();
        }
        changes.add(new Change(today, pack, title, false, 0, 0, 0));
        return 0;
    }

    private long pass(int days) {
        range(days, 1, 20000);
        if (today + days > 20000) {
            throw new IllegalStateException();
        }
        today += days;
        return today;
    }

    private long mend(int pack, int title) {
        pack(pack);
        title(title);
        int were = breaks[pack][title];
        breaks[pack][title] = 0;
        return were;
    }

    private boolean letsIn(int pack, int group) {
        return (packs.get(pack).groups & 1 << group) != 0;
    }

    private boolean coversBy1(int pack, int title, int year, int day) {
        if (!subscribed(pack, day) || !isIn(pack, title, day)) {
            return false;
        }
        Change c = at(pack, title, day);
        return year >= c.first && year <= c.last && year <= day / 360 - c.wall;
    }

    private boolean coversBy2(int pack, int title, int year, int day) {
        int end = 360 * year + 359;
        if (packs.get(pack).keeps == 0 || end >= day) {
            return false;
        }
        if (!subscribed(pack, end) || !isIn(pack, title, end)) {
            return false;
        }
        Change c = at(pack, title, end);
        return year >= c.first && year <= c.last && year <= day / 360 - c.wall;
    }

    private boolean covers(int pack, int title, int year, int group, int day) {
        return letsIn(pack, group)
                && (coversBy1(pack, title, year, day) || coversBy2(pack, title, year, day));
    }

    private List<Integer> ways(int title, int year, int group, int day) {
        List<Integer> ways = new ArrayList<>();
        for (int pack = 0; pack < packs.size(); pack++) {
            if (covers(pack, title, year, group, day)) {
                ways.add(pack);
            }
        }
        ways.sort((a, b) -> Arrays.compare(rank(a, title), rank(b, title)));
        return ways;
    }

    private int[] rank(int pack, int title) {
        Pack p = packs.get(pack);
        return new int[] {breaks[pack][title] < 2 ? 0 : 1, p.cost, p.version, pack};
    }

    private long wayAt(int place, int title, int year, int group, int day) {
        article(year, group, day);
        title(title);
        List<Integer> ways = ways(title, year, group, day);
        if (place < 0 || place >= ways.size()) {
            throw new IndexOutOfBoundsException();
        }
        return ways.get(place);
    }

    private long gap(int title, int group) {
        title(title);
        range(group, 0, 3);
        for (int year = titles.get(title).firstYear; year <= today / 360; year++) {
            if (ways(title, year, group, today).isEmpty()) {
                return year;
            }
        }
        return -1;
    }

    private long doubles(int title, int group) {
        title(title);
        range(group, 0, 3);
        int doubles = 0;
        for (int year = titles.get(title).firstYear; year <= today / 360; year++) {
            if (ways(title, year, group, today).size() >= 2) {
                doubles++;
            }
        }
        return doubles;
    }

    private boolean isNeedless(int pack) {
        pack(pack);
        for (int title = 0; title < titles.size(); title++) {
            for (int year = titles.get(title).firstYear; year <= today / 360; year++) {
                for (int group = 0; group <= 3; group++) {
                    if (covers(pack, title, year, group, today)
                            && !coversBy2(pack, title, year, today)
                            && !coveredByAnother(pack, title, year, group)) {
                        return false;
                    }
                }
            }
        }
        return true;
    }

    private boolean coveredByAnother(int pack, int title, int year, int group) {
        for (int other = 0; other < packs.size(); other++) {
            if (other != pack && covers(other, title, year, group, today)) {
                return true;
            }
        }
        return false;
    }
}
