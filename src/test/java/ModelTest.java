import java.util.Random;

/** Runs of 512 calls, drawn from fixed seeds, each answer compared with the Model's. */
public final class ModelTest {
    private static final int RUNS = 400;
    private static final int CALLS = 512;
    private static final String[] NAMES = {
        "addTitle", "yearOf", "volumeOf", "addPackage", "subscribe", "come", "go", "pass", "today",
        "isSubscribed", "isIn", "report", "mend", "covers", "ways", "wayAt", "gap", "doubles", "isNeedless"};
    /** How often each call is drawn, in the order of NAMES. */
    private static final int[] OFTEN = {2, 2, 2, 2, 9, 12, 4, 10, 1, 3, 3, 5, 2, 15, 8, 12, 8, 8, 6};

    private final Random random;
    private final LinkResolver x = new LinkResolver();
    private final Model model = new Model();
    private final int run;
    private final int mostTitles;
    private final int mostPacks;
    private final int daysAtOnce;

    private ModelTest(int run) {
        this.run = run;
        random = new Random(run);
        mostTitles = run % 10 == 0 ? 20 : 1 + random.nextInt(3);
        mostPacks = run % 10 == 0 ? 10 : 1 + random.nextInt(5);
        daysAtOnce = random.nextInt(4);
    }

    public static void main(String[] args) {
        Check.begin();
        for (int run = 0; run < RUNS; run++) {
            new ModelTest(run).play();
        }
        Check.end();
    }

    private void play() {
        int all = 0;
        for (int often : OFTEN) {
            all += often;
        }
        for (int call = 0; call < CALLS; call++) {
            int drawn = random.nextInt(all);
            int which = 0;
            while (drawn >= OFTEN[which]) {
                drawn -= OFTEN[which];
                which++;
            }
            if (call < mostTitles) {
                which = 0;
            } else if (call < mostTitles + mostPacks) {
                which = 3;
            } else if (which == 0 && model.titles() >= mostTitles && random.nextInt(4) != 0
                    || which == 3 && model.packs() >= mostPacks && random.nextInt(4) != 0) {
                which = 5;
            }
            if (!compare(call, which, arguments(which))) {
                return;
            }
        }
    }

    private boolean compare(int call, int which, int[] a) {
        String due;
        String got;
        try {
            due = String.valueOf(model.call(which, a));
        } catch (RuntimeException e) {
            due = e.getClass().getName();
        }
        try {
            got = String.valueOf(ask(which, a));
        } catch (RuntimeException e) {
            got = e.getClass().getName();
        }
        if (due.equals(got)) {
            Check.right();
            return true;
        }
        StringBuilder told = new StringBuilder(NAMES[which]);
        for (int argument : a) {
            told.append(' ').append(argument);
        }
        Check.fails("run " + run + ", call " + call + ": " + told + " answered " + got + ", due is " + due);
        return false;
    }

    private long ask(int which, int[] a) {
        switch (which) {
            case 0: return x.addTitle(a[0], a[1]);
            case 1: return x.yearOf(a[0], a[1]);
            case 2: return x.volumeOf(a[0], a[1]);
            case 3: return x.addPackage(a[0], a[1], a[2], a[3]);
            case 4: return x.subscribe(a[0], a[1] == 1) ? 1 : 0;
            case 5: return x.come(a[0], a[1], a[2], a[3], a[4]) ? 1 : 0;
            case 6: x.go(a[0], a[1]); return 0;
            case 7: return x.pass(a[0]);
            case 8: return x.today();
            case 9: return x.isSubscribed(a[0], a[1]) ? 1 : 0;
            case 10: return x.isIn(a[0], a[1], a[2]) ? 1 : 0;
            case 11: return x.report(a[0], a[1]);
            case 12: return x.mend(a[0], a[1]);
            case 13: return x.covers(a[0], a[1], a[2], a[3], a[4]) ? 1 : 0;
            case 14: return x.ways(a[0], a[1], a[2], a[3]);
            case 15: return x.wayAt(a[0], a[1], a[2], a[3], a[4]);
            case 16: return x.gap(a[0], a[1]);
            case 17: return x.doubles(a[0], a[1]);
            default: return x.isNeedless(a[0]) ? 1 : 0;
        }
    }

    private int[] arguments(int which) {
        int year = model.today() / 360;
        switch (which) {
            case 0: return new int[] {near(0, Math.min(55, 10)), near(1, 4)};
            case 1: return new int[] {title(), near(1, 230)};
            case 2: return new int[] {title(), near(0, 55)};
            case 3: return new int[] {near(0, random.nextBoolean() ? 2 : 1000), near(0, 2),
                random.nextInt(3) == 0 ? near(0, 15) : 15, near(0, 1)};
            case 4: return new int[] {pack(), random.nextInt(3) == 0 ? 0 : 1};
            case 5: return come(year);
            case 7: return new int[] {days()};
            case 8: return new int[0];
            case 9: return new int[] {pack(), day()};
            case 10: return new int[] {pack(), title(), day()};
            case 13: return new int[] {pack(), title(), near(0, Math.min(55, year + 1)), group(), day()};
            case 14: return new int[] {title(), near(0, Math.min(55, year + 1)), group(), day()};
            case 15: return new int[] {near(0, 4), title(), near(0, Math.min(55, year + 1)), group(), day()};
            case 16: case 17: return new int[] {title(), group()};
            case 18: return new int[] {pack()};
            default: return new int[] {pack(), title()};
        }
    }

    private int[] come(int year) {
        int first = random.nextInt(3) == 0 ? near(0, Math.min(55, year + 2)) : 0;
        int last = random.nextInt(3) == 0 ? near(Math.max(0, first), 55) : 55;
        int wall = random.nextInt(3) == 0 ? near(0, 20) : random.nextInt(4);
        return new int[] {pack(), title(), first, last, wall};
    }

    /** Mostly from least to most, now and then just outside or far away. */
    private int near(int least, int most) {
        int draw = random.nextInt(60);
        if (draw == 0) {
            return random.nextBoolean() ? least - 1 : most + 1;
        }
        if (draw == 1) {
            return random.nextBoolean() ? Integer.MIN_VALUE : Integer.MAX_VALUE;
        }
        if (draw < 6) {
            return random.nextBoolean() ? least : most;
        }
        return least + random.nextInt(Math.max(1, most - least + 1));
    }

    private int title() {
        return near(0, Math.max(0, model.titles() - 1));
    }

    private int pack() {
        return near(0, Math.max(0, model.packs() - 1));
    }

    private int group() {
        return near(0, 3);
    }

    /** The last and the first days of years are where answers turn. */
    private int day() {
        int today = model.today();
        if (random.nextInt(3) == 0) {
            return today;
        }
        int day = near(0, today);
        if (random.nextBoolean() && day > 0 && day < today) {
            day = Math.min(today, Math.max(0, day / 360 * 360 + 358 + random.nextInt(4)));
        }
        return day;
    }

    private int days() {
        int today = model.today();
        int toLastDay = 359 - today % 360;
        int draw = random.nextInt(12);
        if (draw < 4 && toLastDay > 0) {
            return toLastDay;
        }
        if (draw < 6) {
            return 1 + random.nextInt(2);
        }
        if (draw == 6) {
            return near(1, random.nextInt(8) == 0 ? 20000 : 400);
        }
        if (draw == 7 && (today > 19000 || random.nextInt(25) == 0)) {
            return 20000 - today + random.nextInt(2) * (random.nextInt(4) == 0 ? 0 : 1);
        }
        return 1 + random.nextInt(360 * (1 + daysAtOnce));
    }
}
