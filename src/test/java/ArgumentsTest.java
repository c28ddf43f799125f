import java.util.ArrayList;
import java.util.List;

/**
 * Every argument of every call at the least that it may be, the most, one less, one more and far
 * away, alone and with the others: what is thrown, which exception comes first if several apply,
 * that a call that throws changes nothing, and what the calls at the edges answer and change.
 */
public final class ArgumentsTest {
    private static final Class<? extends RuntimeException> INDEX = IndexOutOfBoundsException.class;
    private static final Class<? extends RuntimeException> ARGUMENT = IllegalArgumentException.class;
    private static final Class<? extends RuntimeException> STATE = IllegalStateException.class;

    private static final int MOST_CALLS = 512;

    /** An argument: one that is in range, the least and the most, and what is thrown out of range. */
    private record Argument(int right, int least, int most, Class<? extends RuntimeException> due) {
    }

    /** A call with the exception that the document lists first for it. */
    private record Face(int which, Class<? extends RuntimeException> first, Argument... arguments) {
    }

    private record Asked(int which, int... a) {
    }

    /** An object with three titles and packages, at today 4100, which is in the year 11. */
    private static final Asked[] BUSY = {
        new Asked(Calls.ADD_TITLE, 10, 3), new Asked(Calls.ADD_TITLE, 0, 1), new Asked(Calls.ADD_TITLE, 55, 4),
        new Asked(Calls.ADD_PACKAGE, 10, 1, 15, 1), new Asked(Calls.ADD_PACKAGE, 5, 0, 3, 0),
        new Asked(Calls.ADD_PACKAGE, 5, 0, 12, 1), new Asked(Calls.SUBSCRIBE, 0, 1),
        new Asked(Calls.SUBSCRIBE, 1, 1), new Asked(Calls.COME, 0, 0, 0, 55, 0),
        new Asked(Calls.COME, 0, 1, 0, 3, 1), new Asked(Calls.COME, 1, 1, 2, 30, 2),
        new Asked(Calls.PASS, 400), new Asked(Calls.COME, 2, 1, 0, 55, 0), new Asked(Calls.SUBSCRIBE, 2, 1),
        new Asked(Calls.REPORT, 0, 1), new Asked(Calls.REPORT, 1, 1), new Asked(Calls.REPORT, 1, 1),
        new Asked(Calls.PASS, 700), new Asked(Calls.SUBSCRIBE, 0, 0), new Asked(Calls.COME, 1, 0, 5, 20, 0),
        new Asked(Calls.GO, 1, 1), new Asked(Calls.PASS, 3000)};
    private static final int BUSY_DAY = 4100;
    private static final int LAST_DAY = 20000;

    public static void main(String[] args) {
        Check.begin();
        List<Asked> busy = new ArrayList<>(List.of(BUSY));
        List<Asked> full = fullOf(busy);
        for (Face face : faces(3, 3, BUSY_DAY)) {
            wrongArguments(face, busy);
            edges(face, busy);
        }
        for (Face face : faces(20, 10, LAST_DAY)) {
            wrongArguments(face, full);
        }
        refusedByState(busy, full);
        newObjectRefuses();
        Check.end();
    }

    /** The same with 20 titles and 10 packages, on the last day. */
    private static List<Asked> fullOf(List<Asked> busy) {
        List<Asked> full = new ArrayList<>(busy);
        for (int title = 3; title < 20; title++) {
            full.add(new Asked(Calls.ADD_TITLE, 1, 1));
        }
        for (int pack = 3; pack < 10; pack++) {
            full.add(new Asked(Calls.ADD_PACKAGE, pack, 1, 15, 1));
        }
        full.add(new Asked(Calls.PASS, LAST_DAY - BUSY_DAY));
        return full;
    }

    private static List<Face> faces(int titles, int packs, int today) {
        Argument title = new Argument(0, 0, titles - 1, INDEX);
        Argument pack = new Argument(0, 0, packs - 1, INDEX);
        Argument year = new Argument(10, 0, 55, ARGUMENT);
        Argument group = new Argument(0, 0, 3, ARGUMENT);
        Argument day = new Argument(today, 0, today, ARGUMENT);
        Argument bit = new Argument(1, 0, 1, ARGUMENT);
        List<Face> all = new ArrayList<>();
        all.add(new Face(Calls.ADD_TITLE, ARGUMENT, year, new Argument(2, 1, 4, ARGUMENT)));
        // The title 0 has three volumes a year from the year 10 on.
        all.add(new Face(Calls.YEAR_OF, INDEX, title, new Argument(7, 1, 46 * 3, ARGUMENT)));
        all.add(new Face(Calls.VOLUME_OF, INDEX, title, new Argument(12, 10, 55, ARGUMENT)));
        all.add(new Face(Calls.ADD_PACKAGE, ARGUMENT, new Argument(7, 0, 1000, ARGUMENT),
                new Argument(1, 0, 2, ARGUMENT), new Argument(9, 0, 15, ARGUMENT), bit));
        all.add(new Face(Calls.SUBSCRIBE, INDEX, pack));
        all.add(new Face(Calls.COME, INDEX, pack, title, year,
                new Argument(20, 10, 55, ARGUMENT), new Argument(2, 0, 20, ARGUMENT)));
        all.add(new Face(Calls.GO, INDEX, pack, title));
        all.add(new Face(Calls.PASS, ARGUMENT, new Argument(3, 1, 20000, ARGUMENT)));
        all.add(new Face(Calls.IS_SUBSCRIBED, INDEX, pack, day));
        all.add(new Face(Calls.IS_IN, INDEX, pack, title, day));
        all.add(new Face(Calls.REPORT, INDEX, pack, title));
        all.add(new Face(Calls.MEND, INDEX, pack, title));
        all.add(new Face(Calls.COVERS, INDEX, pack, title, year, group, day));
        all.add(new Face(Calls.WAYS, INDEX, title, year, group, day));
        // There are ten packages at most, so that there is never a place 10.
        all.add(new Face(Calls.WAY_AT, ARGUMENT, new Argument(0, 0, 9, INDEX), title, year, group, day));
        all.add(new Face(Calls.GAP, INDEX, title, group));
        all.add(new Face(Calls.DOUBLES, INDEX, title, group));
        all.add(new Face(Calls.IS_NEEDLESS, INDEX, pack));
        return all;
    }

    /** Subscribe takes a boolean too, which cannot be wrong. */
    private static Asked call(Face face, int... a) {
        return face.which() == Calls.SUBSCRIBE ? new Asked(face.which(), a[0], 1) : new Asked(face.which(), a);
    }

    private static void wrongArguments(Face face, List<Asked> before) {
        List<String> due = dueAfter(before, null);
        int count = face.arguments().length;
        int all = 1;
        for (int i = 0; i < count; i++) {
            all *= 3;
        }
        for (int pick = 1; pick < all; pick++) {
            int[] a = new int[count];
            int rest = pick;
            for (int i = 0; i < count; i++) {
                Argument one = face.arguments()[i];
                a[i] = rest % 3 == 0 ? one.right() : rest % 3 == 1 ? one.least() - 1 : one.most() + 1;
                rest /= 3;
            }
            refused(before, call(face, a), thrown(face, a), due);
        }
        for (int i = 0; i < count; i++) {
            for (int far : new int[] {Integer.MIN_VALUE, Integer.MAX_VALUE}) {
                int[] a = new int[count];
                for (int j = 0; j < count; j++) {
                    a[j] = j == i ? far : face.arguments()[j].right();
                }
                refused(before, call(face, a), thrown(face, a), due);
            }
        }
    }

    private static Class<? extends RuntimeException> thrown(Face face, int[] a) {
        Class<? extends RuntimeException> thrown = null;
        for (int i = 0; i < a.length; i++) {
            Argument one = face.arguments()[i];
            if ((a[i] < one.least() || a[i] > one.most()) && thrown != face.first()) {
                thrown = one.due();
            }
        }
        return thrown;
    }

    private static void refused(List<Asked> before, Asked call, Class<?> thrown, List<String> due) {
        LinkResolver x = made(before);
        String told = Calls.told(call.which(), call.a());
        String got = Calls.answer(x, call.which(), call.a());
        if (!got.equals(thrown.getName())) {
            Check.fails(told + " answered " + got + ", due is " + thrown.getName());
        }
        compare("after the refused " + told, x, due);
    }

    /** Each argument at its least or its most, in all combinations. */
    private static void edges(Face face, List<Asked> before) {
        int count = face.arguments().length;
        for (int pick = 0; pick < 1 << count; pick++) {
            int[] a = new int[count];
            for (int i = 0; i < count; i++) {
                Argument one = face.arguments()[i];
                a[i] = (pick >> i & 1) == 0 ? one.least() : one.most();
            }
            if (face.which() == Calls.COME) {
                // The least of the last year is the first year.
                a[3] = (pick >> 3 & 1) == 0 ? a[2] : 55;
            }
            atTheEdge(before, call(face, a));
        }
    }

    private static void atTheEdge(List<Asked> before, Asked call) {
        LinkResolver x = made(before);
        String told = Calls.told(call.which(), call.a());
        String got = Calls.answer(x, call.which(), call.a());
        Model model = new Model();
        replay(model, before);
        String due = Calls.due(model, call.which(), call.a());
        if (!got.equals(due) || !edgesDependOnMore(call.which()) && got.endsWith("Exception")) {
            Check.fails(told + " answered " + got + ", due is " + due);
        }
        compare("after " + told, x, dueAfter(before, call));
    }

    /** Whether a call may be refused though each of its arguments is in the range that faces() gives. */
    private static boolean edgesDependOnMore(int which) {
        return which == Calls.YEAR_OF || which == Calls.VOLUME_OF || which == Calls.WAY_AT
                || which == Calls.GO || which == Calls.PASS;
    }

    private static void refusedByState(List<Asked> busy, List<Asked> full) {
        List<String> due = dueAfter(busy, null);
        refused(busy, new Asked(Calls.GO, 1, 1), STATE, due);
        refused(busy, new Asked(Calls.GO, 2, 2), STATE, due);
        refused(busy, new Asked(Calls.PASS, LAST_DAY - BUSY_DAY + 1), STATE, due);
        refused(busy, new Asked(Calls.PASS, 20000), STATE, due);
        due = dueAfter(full, null);
        refused(full, new Asked(Calls.ADD_TITLE, 0, 1), STATE, due);
        refused(full, new Asked(Calls.ADD_TITLE, 55, 4), STATE, due);
        refused(full, new Asked(Calls.ADD_PACKAGE, 0, 0, 0, 0), STATE, due);
        refused(full, new Asked(Calls.ADD_PACKAGE, 1000, 2, 15, 1), STATE, due);
        refused(full, new Asked(Calls.GO, 9, 19), STATE, due);
        refused(full, new Asked(Calls.PASS, 1), STATE, due);
        refused(full, new Asked(Calls.PASS, 20000), STATE, due);
    }

    /** Whatever is asked of a title or a package of a new object, there is none; and it stays so. */
    private static void newObjectRefuses() {
        List<Asked> nothing = new ArrayList<>();
        List<String> due = dueAfter(nothing, null);
        for (Face face : faces(3, 3, 0)) {
            boolean needsNone = face.which() == Calls.ADD_TITLE || face.which() == Calls.ADD_PACKAGE
                    || face.which() == Calls.PASS;
            if (!needsNone) {
                int[] a = new int[face.arguments().length];
                for (int i = 0; i < a.length; i++) {
                    a[i] = face.arguments()[i].right();
                }
                refused(nothing, call(face, a), INDEX, due);
            }
        }
    }

    private static LinkResolver made(List<Asked> before) {
        LinkResolver x = new LinkResolver();
        for (Asked call : before) {
            Calls.make(x, call.which(), call.a());
        }
        return x;
    }

    private static void replay(Model model, List<Asked> before) {
        for (Asked call : before) {
            model.call(call.which(), call.a());
        }
    }

    /** What the Model answers to all questions after the calls before and, if there is one, another. */
    private static List<String> dueAfter(List<Asked> before, Asked call) {
        Model model = new Model();
        replay(model, before);
        if (call != null) {
            Calls.due(model, call.which(), call.a());
        }
        List<Asked> questions = questions();
        if (before.size() + 1 + questions.size() > MOST_CALLS) {
            Check.fails("the questions are too many for one object");
        }
        List<String> due = new ArrayList<>();
        for (Asked question : questions) {
            due.add(Calls.due(model, question.which(), question.a()));
        }
        return due;
    }

    private static void compare(String when, LinkResolver x, List<String> due) {
        int place = 0;
        for (Asked question : questions()) {
            String got = Calls.answer(x, question.which(), question.a());
            if (!got.equals(due.get(place))) {
                Check.fails(when + ", " + Calls.told(question.which(), question.a())
                        + " answered " + got + ", due is " + due.get(place));
                return;
            }
            place++;
        }
        Check.right();
    }

    /** Questions about all that the object holds; behind them the calls that tell by what they change. */
    private static List<Asked> questions() {
        int[] days = {0, 399, 400, 1099, 1100, BUSY_DAY};
        List<Asked> all = new ArrayList<>();
        all.add(new Asked(Calls.TODAY));
        for (int title = 0; title < 3; title++) {
            all.add(new Asked(Calls.YEAR_OF, title, 4));
            all.add(new Asked(Calls.VOLUME_OF, title, 55));
            for (int group = 0; group < 4; group++) {
                all.add(new Asked(Calls.GAP, title, group));
                all.add(new Asked(Calls.DOUBLES, title, group));
            }
            for (int day : days) {
                for (int year : new int[] {0, 2, 10}) {
                    for (int group = 0; group < 4; group += 3) {
                        all.add(new Asked(Calls.WAYS, title, year, group, day));
                        all.add(new Asked(Calls.WAY_AT, 0, title, year, group, day));
                    }
                }
            }
        }
        for (int pack = 0; pack < 3; pack++) {
            all.add(new Asked(Calls.IS_NEEDLESS, pack));
            for (int day : days) {
                all.add(new Asked(Calls.IS_SUBSCRIBED, pack, day));
                for (int title = 0; title < 3; title++) {
                    all.add(new Asked(Calls.IS_IN, pack, title, day));
                }
            }
        }
        changes(all);
        return all;
    }

    private static void changes(List<Asked> all) {
        for (int pack = 0; pack < 3; pack++) {
            all.add(new Asked(Calls.SUBSCRIBE, pack, 1));
            for (int title = 0; title < 3; title++) {
                all.add(new Asked(Calls.REPORT, pack, title));
                all.add(new Asked(Calls.MEND, pack, title));
                all.add(new Asked(Calls.GO, pack, title));
            }
        }
        all.add(new Asked(Calls.ADD_TITLE, 0, 1));
        all.add(new Asked(Calls.ADD_PACKAGE, 0, 0, 0, 0));
        all.add(new Asked(Calls.PASS, 1));
        all.add(new Asked(Calls.TODAY));
    }
}
