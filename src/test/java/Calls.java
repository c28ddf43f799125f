/** The calls of the face by number, so that tests can make them from rows of numbers. */
final class Calls {
    static final int ADD_TITLE = 0;
    static final int YEAR_OF = 1;
    static final int VOLUME_OF = 2;
    static final int ADD_PACKAGE = 3;
    static final int SUBSCRIBE = 4;
    static final int COME = 5;
    static final int GO = 6;
    static final int PASS = 7;
    static final int TODAY = 8;
    static final int IS_SUBSCRIBED = 9;
    static final int IS_IN = 10;
    static final int REPORT = 11;
    static final int MEND = 12;
    static final int COVERS = 13;
    static final int WAYS = 14;
    static final int WAY_AT = 15;
    static final int GAP = 16;
    static final int DOUBLES = 17;
    static final int IS_NEEDLESS = 18;

    private static final String[] NAMES = {
        "addTitle", "yearOf", "volumeOf", "addPackage", "subscribe", "come", "go", "pass", "today",
        "isSubscribed", "isIn", "report", "mend", "covers", "ways", "wayAt", "gap", "doubles", "isNeedless"};
    /** The document tells of the calls in their order, behind its promise of a new object. */
    private static final int FIRST_PROMISE = 2;

    private Calls() {
    }

    static String name(int which) {
        return NAMES[which];
    }

    static int promise(int which) {
        return which + FIRST_PROMISE;
    }

    static int numbered(String name) {
        for (int which = 0; which < NAMES.length; which++) {
            if (NAMES[which].equals(name)) {
                return which;
            }
        }
        throw new IllegalArgumentException("no such call: " + name);
    }

    /** A boolean answers as 1 or 0, and so is told; nothing answers as 0. */
    static long make(LinkResolver x, int which, int... a) {
        switch (which) {
            case ADD_TITLE: return x.addTitle(a[0], a[1]);
            case YEAR_OF: return x.yearOf(a[0], a[1]);
            case VOLUME_OF: return x.volumeOf(a[0], a[1]);
            case ADD_PACKAGE: return x.addPackage(a[0], a[1], a[2], a[3]);
            case SUBSCRIBE: return x.subscribe(a[0], a[1] == 1) ? 1 : 0;
            case COME: return x.come(a[0], a[1], a[2], a[3], a[4]) ? 1 : 0;
            case GO: x.go(a[0], a[1]); return 0;
            case PASS: return x.pass(a[0]);
            case TODAY: return x.today();
            case IS_SUBSCRIBED: return x.isSubscribed(a[0], a[1]) ? 1 : 0;
            case IS_IN: return x.isIn(a[0], a[1], a[2]) ? 1 : 0;
            case REPORT: return x.report(a[0], a[1]);
            case MEND: return x.mend(a[0], a[1]);
            case COVERS: return x.covers(a[0], a[1], a[2], a[3], a[4]) ? 1 : 0;
            case WAYS: return x.ways(a[0], a[1], a[2], a[3]);
            case WAY_AT: return x.wayAt(a[0], a[1], a[2], a[3], a[4]);
            case GAP: return x.gap(a[0], a[1]);
            case DOUBLES: return x.doubles(a[0], a[1]);
            case IS_NEEDLESS: return x.isNeedless(a[0]) ? 1 : 0;
            default: throw new IllegalArgumentException("no such call");
        }
    }

    /** What a call answers, or the name of the very class that it throws. */
    static String answer(LinkResolver x, int which, int... a) {
        try {
            return String.valueOf(make(x, which, a));
        } catch (RuntimeException e) {
            return e.getClass().getName();
        }
    }

    /** The same of the Model. */
    static String due(Model model, int which, int... a) {
        try {
            return String.valueOf(model.call(which, a));
        } catch (RuntimeException e) {
            return e.getClass().getName();
        }
    }

    static String told(int which, int... a) {
        StringBuilder told = new StringBuilder();
        told.append(promise(which)).append(": ").append(NAMES[which]).append('(');
        for (int i = 0; i < a.length; i++) {
            told.append(i == 0 ? "" : ", ").append(a[i]);
        }
        return told.append(')').toString();
    }
}
