import java.util.Random;

/** Runs of 512 calls, drawn from fixed seeds, each answer compared with the Model's. */
public final class ModelTest {
    private static final int RUNS = 400;
    private static final int CALLS = 512;
    /** How often each call is drawn, in the order of their numbers in Calls. */
    private static final int[] OFTEN = {2, 2, 2, 2, 9, 12, 4, 10, 1, 3, 3, 5, 2, 15, 8, 12, 8, 8, 6};

    private final Random random;
    private final LinkResolver x = new LinkResolver();
    private final Model model = new Model();
    private final int run;
    private final int mostTitles;
    private final int mostPacks;
    private final int daysAtOnce;

    private ModelTest(int run) {
        this.run = run;
        random = new Random(run);
        mostTitles = run % 10 == 0 ? 20 : 1 + random.nextInt(3);
        mostPacks = run % 10 == 0 ? 10 : 1 + random.nextInt(5);
        daysAtOnce = random.nextInt(4);
    }

    public static void main(String[] args) {
        Check.begin();
        for (int run = 0; run < RUNS; run++) {
            new ModelTest(run).play();
        }
        Check.end();
    }

    private void play() {
        int all = 0;
        for (int often : OFTEN) {
            all += often;
        }
        for (int call = 0; call < CALLS; call++) {
            int drawn = random.nextInt(all);
            int which = 0;
            while (drawn >= OFTEN[which]) {
                drawn -= OFTEN[which];
                which++;
            }
            if (call < mostTitles) {
                which = Calls.ADD_TITLE;
            } else if (call < mostTitles + mostPacks) {
                which = Calls.ADD_PACKAGE;
            } else if (which == Calls.ADD_TITLE && model.titles() >= mostTitles && random.nextInt(4) != 0
                    || which == Calls.ADD_PACKAGE && model.packs() >= mostPacks && random.nextInt(4) != 0) {
                which = Calls.COME;
            }
            if (!compare(call, which, arguments(which))) {
                return;
            }
        }
    }

    private boolean compare(int call, int which, int[] a) {
        String due = Calls.due(model, which, a);
        String got = Calls.answer(x, which, a);
        if (due.equals(got)) {
            Check.right();
            return true;
        }
        Check.fails("run " + run + ", call " + call + ": " + Calls.told(which, a)
                + " answered " + got + ", due is " + due);
        return false;
    }

    private int[] arguments(int which) {
        int year = model.today() / 360;
        switch (which) {
            case Calls.ADD_TITLE: return new int[] {near(0, Math.min(55, 10)), near(1, 4)};
            case Calls.YEAR_OF: return new int[] {title(), near(1, 230)};
            case Calls.VOLUME_OF: return new int[] {title(), near(0, 55)};
            case Calls.ADD_PACKAGE: return new int[] {near(0, random.nextBoolean() ? 2 : 1000), near(0, 2),
                random.nextInt(3) == 0 ? near(0, 15) : 15, near(0, 1)};
            case Calls.SUBSCRIBE: return new int[] {pack(), random.nextInt(3) == 0 ? 0 : 1};
            case Calls.COME: return come(year);
            case Calls.PASS: return new int[] {days()};
            case Calls.TODAY: return new int[0];
            case Calls.IS_SUBSCRIBED: return new int[] {pack(), day()};
            case Calls.IS_IN: return new int[] {pack(), title(), day()};
            case Calls.COVERS: return new int[] {pack(), title(), near(0, Math.min(55, year + 1)), group(), day()};
            case Calls.WAYS: return new int[] {title(), near(0, Math.min(55, year + 1)), group(), day()};
            case Calls.WAY_AT: return new int[] {near(0, 4), title(), near(0, Math.min(55, year + 1)), group(), day()};
            case Calls.GAP: case Calls.DOUBLES: return new int[] {title(), group()};
            case Calls.IS_NEEDLESS: return new int[] {pack()};
            default: return new int[] {pack(), title()};
        }
    }

    private int[] come(int year) {
        int first = random.nextInt(3) == 0 ? near(0, Math.min(55, year + 2)) : 0;
        int last = random.nextInt(3) == 0 ? near(Math.max(0, first), 55) : 55;
        int wall = random.nextInt(3) == 0 ? near(0, 20) : random.nextInt(4);
        return new int[] {pack(), title(), first, last, wall};
    }

    /** Mostly from least to most, now and then just outside or far away. */
    private int near(int least, int most) {
        int draw = random.nextInt(60);
        if (draw == 0) {
            return random.nextBoolean() ? least - 1 : most + 1;
        }
        if (draw == 1) {
            return random.nextBoolean() ? Integer.MIN_VALUE : Integer.MAX_VALUE;
        }
        if (draw < 6) {
            return random.nextBoolean() ? least : most;
        }
        return least + random.nextInt(Math.max(1, most - least + 1));
    }

    private int title() {
        return near(0, Math.max(0, model.titles() - 1));
    }

    private int pack() {
        return near(0, Math.max(0, model.packs() - 1));
    }

    private int group() {
        return near(0, 3);
    }

    /** The last and the first days of years are where answers turn. */
    private int day() {
        int today = model.today();
        if (random.nextInt(3) == 0) {
            return today;
        }
        int day = near(0, today);
        if (random.nextBoolean() && day > 0 && day < today) {
            day = Math.min(today, Math.max(0, day / 360 * 360 + 358 + random.nextInt(4)));
        }
        return day;
    }

    private int days() {
        int today = model.today();
        int toLastDay = 359 - today % 360;
        int draw = random.nextInt(12);
        if (draw < 4 && toLastDay > 0) {
            return toLastDay;
        }
        if (draw < 6) {
            return 1 + random.nextInt(2);
        }
        if (draw == 6) {
            return near(1, random.nextInt(8) == 0 ? 20000 : 400);
        }
        if (draw == 7 && (today > 19000 || random.nextInt(25) == 0)) {
            return 20000 - today + random.nextInt(2) * (random.nextInt(4) == 0 ? 0 : 1);
        }
        return 1 + random.nextInt(360 * (1 + daysAtOnce));
    }
}
