import java.lang.reflect.InvocationTargetException;
import java.lang.reflect.Method;
import java.lang.reflect.Modifier;
import java.util.ArrayList;
import java.util.Arrays;
import java.util.List;
import java.util.Map;
import java.util.NoSuchElementException;
import java.util.TreeMap;

/**
 * For each call of the face and each of its numbers: the least and the greatest that the document allows are taken,
 * those next to them and the ends of 32 bits are refused, by the exception that is due, and a refused call is counted
 * and changes nothing.
 */
public final class RefusedCalls {
    private static final int[] ANY = {};
    /** Stands for the men, or the questions, that there are. */
    private static final int[] MAN = {0, 0, 0};
    private static final int[] QUESTION = {0, 0, 0};
    /** A man as well, but by IllegalArgumentException. */
    private static final int[] SEEN = {0, 0, 0};
    private static final Map<String, int[][]> BOUNDS = new TreeMap<>();

    static {
        bounds("feed", ANY, ANY, ANY, ANY, ANY);
        bounds("fault");
        bounds("told", to(0, 8));
        bounds("man", MAN, to(0, 4));
        bounds("sides", QUESTION);
        bounds("believes", MAN, QUESTION);
        bounds("chair", to(0, 11));
        bounds("differs", MAN, MAN);
        bounds("score", MAN);
        bounds("next");
        bounds("years", to(1, 60));
        bounds("undo", to(1, 60));
        bounds("taken", ANY);
        bounds("sums", to(0, 3));
        bounds("die", MAN);
        bounds("praise", MAN, to(1, 99));
        bounds("ahead", to(0, 60), to(0, 2));
        bounds("when", MAN);
        bounds("breaks");
        bounds("praises", MAN, to(1, 3), to(1, 99), to(0, 1));
        bounds("beliefs", MAN, to(0, 1));
        bounds("sure", MAN, QUESTION);
        bounds("dead", to(1, 60));
        bounds("right");
        bounds("enemy", MAN);
        bounds("ring", MAN, to(0, 1));
        bounds("vote", QUESTION, to(1, 12), to(0, 11));
        bounds("skip", QUESTION);
        bounds("middle");
        bounds("flip", QUESTION);
        bounds("patrons", MAN, MAN, to(1, 99), to(0, 1));
        for (String name : List.of("allies", "rank", "wants", "stays", "doomed", "heir")) {
            bounds(name, MAN);
        }
        for (String name : List.of("lead", "seams", "ringed", "kin", "image", "restore")) {
            bounds(name);
        }
        bounds("pair", to(0, 2));
        bounds("quorum", QUESTION);
        bounds("fates", ANY, to(0, 16), to(1, 40), to(0, 3));
        bounds("span", ANY, to(1, 20), to(0, 16), to(1, 40), to(0, 2), SEEN);
        bounds("status", ANY);
        bounds("count", ANY);
    }

    private RefusedCalls() {
    }

    private static void bounds(String name, int[]... each) {
        BOUNDS.put(name, each);
    }

    private static int[] to(int least, int most) {
        return new int[] {least, most};
    }

    public static void main(String[] args) throws Exception {
        for (Method m : ContraryChairs.class.getDeclaredMethods()) {
            // The lengths of texts depend on the tape: TextEdges looks at them.
            if (!Modifier.isPublic(m.getModifiers()) || List.of("academy", "law", "book").contains(m.getName())) {
                continue;
            }
            int[][] bounds = BOUNDS.get(m.getName());
            Check.begin("bounds of " + m.getName());
            if (bounds == null || bounds.length != m.getParameterCount()) {
                Check.wrong("has no bounds here");
                continue;
            }
            declared(m, bounds);
            for (int i = 0; i < bounds.length; i++) {
                edges(m, bounds, i);
            }
            unknownAheadOfOthers(m, bounds);
            withoutMen(m, bounds);
        }
        patrons();
        greatestAcademy();
        Check.finish();
    }

    /** Three wait in it, 1, 2 and 3, and two questions are told. */
    private static ContraryChairs some() {
        ContraryChairs x = Check.with("question 2;question 3;chairs 3;man 40 0 0;man 30 1 1;man 50 1 2;man 20 0 1;"
            + "man 60 0 0;seat 0;seat 4;");
        Check.law(x, "number");
        Check.book(x, "1 3;");
        x.image();
        x.years(1);
        x.undo(1);
        x.image();
        Check.academy(x, "q");
        return x;
    }

    private static int least(int[] bound) {
        return bound == ANY ? Integer.MIN_VALUE : bound[0];
    }

    private static int most(int[] bound, ContraryChairs x) {
        if (bound == ANY) {
            return Integer.MAX_VALUE;
        }
        return bound == MAN || bound == SEEN ? x.told(1) - 1 : bound == QUESTION ? x.told(0) - 1 : bound[1];
    }

    /** Numbers that are all allowed: patrons wants two men who differ. */
    private static Object[] allowed(Method m, int[][] bounds) {
        Object[] a = new Object[bounds.length];
        for (int i = 0; i < a.length; i++) {
            a[i] = m.getName().equals("patrons") && i < 2 ? 1 + i : 1;
        }
        return a;
    }

    private static Class<?> due(int[] bound) {
        return bound == MAN || bound == QUESTION ? NoSuchElementException.class : IllegalArgumentException.class;
    }

    private static void declared(Method m, int[][] bounds) {
        List<Class<?>> due = new ArrayList<>();
        for (int[] bound : bounds) {
            if (bound != ANY && !due.contains(due(bound))) {
                due.add(due(bound));
            }
        }
        if (!due.equals(Arrays.asList(m.getExceptionTypes()))) {
            Check.wrong("declares " + Arrays.toString(m.getExceptionTypes()));
        }
    }

    private static void edges(Method m, int[][] bounds, int i) throws Exception {
        boolean ofPatrons = m.getName().equals("patrons") && i < 2;
        int greatest = most(bounds[i], some());
        int least = ofPatrons ? 1 + 2 * i : least(bounds[i]);
        int most = ofPatrons ? 3 - 2 * i : greatest;
        Object[] a = allowed(m, bounds);
        if (ofPatrons) {
            a[1 - i] = 2;
        }
        for (int n : new int[] {least, most}) {
            a[i] = n;
            taken(m, some(), a);
        }
        if (bounds[i] == ANY) {
            return;
        }
        for (int n : new int[] {Integer.MIN_VALUE, least(bounds[i]) - 1, greatest + 1, greatest + 2, Integer.MAX_VALUE}) {
            a[i] = n;
            refused(m, some(), a, due(bounds[i]));
        }
    }

    private static void taken(Method m, ContraryChairs x, Object[] a) throws Exception {
        int refusals = x.status(0) + x.status(1);
        try {
            m.invoke(x, a);
        } catch (InvocationTargetException e) {
            Check.wrong(m.getName() + Arrays.toString(a) + " threw " + e.getCause());
        }
        Check.due("refusals by " + Arrays.toString(a), x.status(0) + x.status(1), refusals);
    }

    private static void refused(Method m, ContraryChairs x, Object[] a, Class<?> due) throws Exception {
        int[] was = Check.state(x);
        int fault = x.fault();
        int unknown = x.status(0);
        int unfit = x.status(1);
        boolean isUnknown = due == NoSuchElementException.class;
        try {
            Check.wrong(m.getName() + Arrays.toString(a) + " answered " + m.invoke(x, a));
        } catch (InvocationTargetException e) {
            if (e.getCause().getClass() != due) {
                Check.wrong(m.getName() + Arrays.toString(a) + " threw " + e.getCause());
            }
        }
        String what = " behind " + m.getName() + Arrays.toString(a);
        Check.due("status(0)" + what, x.status(0), unknown + (isUnknown ? 1 : 0));
        Check.due("status(1)" + what, x.status(1), unfit + (isUnknown ? 0 : 1));
        Check.due("fault" + what, x.fault(), fault);
        Check.dueAll("the state" + what, Check.state(x), was);
    }

    /** NoSuchElementException: no such MAN, QUESTION (so below, ahead of others). */
    private static void unknownAheadOfOthers(Method m, int[][] bounds) throws Exception {
        for (int i = 0; i < bounds.length; i++) {
            if (due(bounds[i]) != NoSuchElementException.class || m.getExceptionTypes().length < 2) {
                continue;
            }
            for (int wrong : new int[] {-1, 5}) {
                Object[] a = allowed(m, bounds);
                Arrays.fill(a, -1);
                for (int j = 0; j < a.length; j++) {
                    a[j] = bounds[j] == MAN || bounds[j] == QUESTION ? 1 : -1;
                }
                a[i] = wrong;
                refused(m, some(), a, NoSuchElementException.class);
            }
        }
    }

    private static void withoutMen(Method m, int[][] bounds) throws Exception {
        ContraryChairs x = new ContraryChairs();
        Object[] a = allowed(m, bounds);
        boolean unknown = false;
        boolean unseen = false;
        for (int i = 0; i < a.length; i++) {
            unknown |= due(bounds[i]) == NoSuchElementException.class;
            unseen |= bounds[i] == SEEN;
            a[i] = bounds[i] == MAN || bounds[i] == QUESTION || bounds[i] == SEEN ? 0 : 1;
        }
        if (unknown || unseen) {
            refused(m, x, a, unknown ? NoSuchElementException.class : IllegalArgumentException.class);
        } else {
            taken(m, x, a);
        }
    }

    private static void patrons() throws Exception {
        Method m = ContraryChairs.class.getMethod("patrons", int.class, int.class, int.class, int.class);
        Check.begin("35: IllegalArgumentException: they are one");
        refused(m, some(), new Object[] {1, 1, 5, 0}, IllegalArgumentException.class);
        refused(m, some(), new Object[] {3, 3, 5, 1}, IllegalArgumentException.class);
        Check.begin("35: IllegalArgumentException: one is not WAITING");
        for (int man : new int[] {0, 1, 2, 5}) {
            refused(m, ofAllKinds(), new Object[] {man, 3, 5, 0}, IllegalArgumentException.class);
            refused(m, ofAllKinds(), new Object[] {4, man, 5, 1}, IllegalArgumentException.class);
        }
        taken(m, ofAllKinds(), new Object[] {3, 4, 5, 0});
        taken(m, ofAllKinds(), new Object[] {4, 3, 5, 1});
    }

    /** 0 left, 1 and 5 sit, 2 is dead, 3 and 4 wait. */
    private static ContraryChairs ofAllKinds() {
        ContraryChairs x = Check.with("chairs 2;" + Check.men(6) + "seat 0;seat 1;", "number");
        x.years(1);
        x.die(2);
        return x;
    }

    private static void greatestAcademy() {
        Check.begin("NoSuchElementException: of sixteen MEN and six QUESTIONS");
        ContraryChairs x = Check.with(Check.times(6, "question 2;") + Check.times(16, "man 1 0 0 0 0 0 1;"));
        Check.dueAll("the last of both", new int[] {x.believes(15, 5), x.believes(15, 4), x.sides(5)}, 1, 0, 2);
        Check.unknown("man 16", () -> x.believes(16, 5));
        Check.unknown("question 6", () -> x.believes(15, 6));
        Check.unknown("question 6's sides", () -> x.sides(6));
        Check.unfit("man 16", () -> x.span(1, 1, 0, 1, 0, 16));
        Check.due("man 15", x.span(1, 1, 0, 1, 2, 15), 0);
    }
}
