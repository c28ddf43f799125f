/** Promises 1 to 4: a new object, addTitle, yearOf, volumeOf. */
public final class TitlesTest {
    private static final int[] FAR = {Integer.MIN_VALUE, -1, Integer.MAX_VALUE};

    public static void main(String[] args) {
        Check.begin();
        newObject();
        addTitleNumbers();
        addTitleRefuses();
        equalTitles();
        refusedTitlesTakeNoNumber();
        yearOfVolumes();
        yearOfRefuses();
        volumeOfYears();
        volumeOfRefuses();
        everyVolumeOfEveryTitle();
        Check.end();
    }

    private static void newObject() {
        LinkResolver x = new LinkResolver();
        Check.same("NONE", LinkResolver.NONE, -1);
        Check.same("1: today()", x.today(), 0);
        Check.index("1: yearOf(0, 1) without titles", () -> x.yearOf(0, 1));
        Check.index("1: gap(0, 0) without titles", () -> x.gap(0, 0));
        Check.index("1: isSubscribed(0, 0) without packages", () -> x.isSubscribed(0, 0));
        Check.index("1: isNeedless(0) without packages", () -> x.isNeedless(0));
        LinkResolver y = new LinkResolver();
        x.addTitle(0, 1);
        x.addPackage(0, 0, 15, 1);
        x.pass(7);
        Check.same("1: today() of another object", y.today(), 0);
        Check.same("1: addTitle of another object", y.addTitle(3, 1), 0);
        Check.same("1: addPackage of another object", y.addPackage(0, 0, 0, 0), 0);
    }

    private static void addTitleNumbers() {
        LinkResolver x = new LinkResolver();
        for (int i = 0; i < 20; i++) {
            Check.same("2: addTitle no. " + i, x.addTitle(i % 2 == 0 ? 0 : 55, i % 4 + 1), i);
        }
        Check.state("2: the 21st title", () -> x.addTitle(0, 1));
        Check.state("2: the 21st title again", () -> x.addTitle(55, 4));
        Check.argument("2: the 21st title with a year that is out of range", () -> x.addTitle(56, 1));
        Check.argument("2: the 21st title with volumes that are out of range", () -> x.addTitle(0, 0));
        Check.same("2: the last title", x.yearOf(19, 4), 55);
        Check.index("2: no title 20", () -> x.volumeOf(20, 55));
    }

    private static void addTitleRefuses() {
        LinkResolver x = new LinkResolver();
        for (int far : FAR) {
            Check.argument("2: addTitle(" + far + ", 1)", () -> x.addTitle(far, 1));
            Check.argument("2: addTitle(0, " + far + ")", () -> x.addTitle(0, far));
        }
        Check.argument("2: addTitle(56, 1)", () -> x.addTitle(56, 1));
        Check.argument("2: addTitle(0, 0)", () -> x.addTitle(0, 0));
        Check.argument("2: addTitle(0, 5)", () -> x.addTitle(0, 5));
        Check.index("2: a refused title is not there", () -> x.volumeOf(0, 55));
        Check.same("2: addTitle(0, 1)", x.addTitle(0, 1), 0);
        Check.same("2: addTitle(55, 4)", x.addTitle(55, 4), 1);
    }

    /** Titles of the same words are titles of their own. */
    private static void equalTitles() {
        LinkResolver x = new LinkResolver();
        Check.same("2: a title", x.addTitle(7, 2), 0);
        Check.same("2: the same again", x.addTitle(7, 2), 1);
        x.addPackage(0, 0, 15, 0);
        x.come(0, 1, 0, 55, 0);
        Check.no("2: the first one has not come", x.isIn(0, 0, 0));
        Check.yes("2: the second one has", x.isIn(0, 1, 0));
    }

    /** A refused title leaves no hole in the numbers, and room for the 20th. */
    private static void refusedTitlesTakeNoNumber() {
        LinkResolver x = new LinkResolver();
        for (int i = 0; i < 20; i++) {
            Check.argument("2: refused ahead of no. " + i, () -> x.addTitle(56, 1));
            Check.same("2: no. " + i, x.addTitle(i, 1), i);
            Check.argument("2: refused behind no. " + i, () -> x.addTitle(0, 5));
        }
        for (int i = 0; i < 20; i++) {
            Check.same("2: the first year of no. " + i, x.yearOf(i, 1), i);
        }
    }

    private static void yearOfVolumes() {
        LinkResolver x = new LinkResolver();
        x.addTitle(10, 3);
        Check.same("3: yearOf(0, 1)", x.yearOf(0, 1), 10);
        Check.same("3: yearOf(0, 3)", x.yearOf(0, 3), 10);
        Check.same("3: yearOf(0, 4)", x.yearOf(0, 4), 11);
        Check.same("3: yearOf(0, 6)", x.yearOf(0, 6), 11);
        Check.same("3: yearOf(0, 7)", x.yearOf(0, 7), 12);
        Check.same("3: yearOf(0, 136)", x.yearOf(0, 136), 55);
        Check.same("3: yearOf(0, 138)", x.yearOf(0, 138), 55);
    }

    private static void yearOfRefuses() {
        LinkResolver x = new LinkResolver();
        x.addTitle(10, 3);
        for (int far : FAR) {
            Check.argument("3: yearOf(0, " + far + ")", () -> x.yearOf(0, far));
            Check.index("3: yearOf(" + far + ", 1)", () -> x.yearOf(far, 1));
            Check.index("3: yearOf(" + far + ", 0)", () -> x.yearOf(far, 0));
        }
        Check.argument("3: yearOf(0, 0)", () -> x.yearOf(0, 0));
        Check.argument("3: yearOf(0, 139)", () -> x.yearOf(0, 139));
        Check.index("3: yearOf(1, 1)", () -> x.yearOf(1, 1));
        Check.index("3: yearOf(1, 0): the title comes first", () -> x.yearOf(1, 0));
    }

    private static void volumeOfYears() {
        LinkResolver x = new LinkResolver();
        x.addTitle(10, 3);
        Check.same("4: volumeOf(0, 10)", x.volumeOf(0, 10), 1);
        Check.same("4: volumeOf(0, 11)", x.volumeOf(0, 11), 4);
        Check.same("4: volumeOf(0, 55)", x.volumeOf(0, 55), 136);
    }

    private static void volumeOfRefuses() {
        LinkResolver x = new LinkResolver();
        x.addTitle(10, 3);
        for (int far : FAR) {
            Check.argument("4: volumeOf(0, " + far + ")", () -> x.volumeOf(0, far));
            Check.index("4: volumeOf(" + far + ", 10)", () -> x.volumeOf(far, 10));
        }
        Check.argument("4: volumeOf(0, 9)", () -> x.volumeOf(0, 9));
        Check.argument("4: volumeOf(0, 0)", () -> x.volumeOf(0, 0));
        Check.argument("4: volumeOf(0, 56)", () -> x.volumeOf(0, 56));
        Check.index("4: volumeOf(1, 56): the title comes first", () -> x.volumeOf(1, 56));
    }

    private static void everyVolumeOfEveryTitle() {
        for (int first = 0; first <= 55; first++) {
            for (int volumes = 1; volumes <= 4; volumes++) {
                LinkResolver x = new LinkResolver();
                int title = x.addTitle(first, volumes);
                int volume = 1;
                for (int year = first; year <= 55; year++) {
                    Check.same("4: the first volume of " + year, x.volumeOf(title, year), volume);
                    for (int i = 0; i < volumes; i++) {
                        Check.same("3: the year of " + volume, x.yearOf(title, volume), year);
                        volume++;
                    }
                }
                int above = volume;
                int before = first - 1;
                Check.argument("3: a volume of the year 56", () -> x.yearOf(title, above));
                Check.argument("3: a volume of the year before the first", () -> x.yearOf(title, 0));
                Check.argument("4: the year before the first", () -> x.volumeOf(title, before));
                Check.argument("4: the year 56", () -> x.volumeOf(title, 56));
            }
        }
    }
}
