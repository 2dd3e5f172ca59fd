import java.util.NoSuchElementException;

/** What the tests share: telling texts, and saying what was due. */
final class Check {
    private static int passed;
    private static int failed;
    private static int wrongHere;
    private static String name = "";

    interface Call {
        int ask();
    }

    private Check() {
    }

    static void begin(String test) {
        end();
        name = test;
        wrongHere = 0;
    }

    private static void end() {
        if (name.isEmpty()) {
            return;
        }
        if (wrongHere == 0) {
            passed++;
        } else {
            failed++;
        }
    }

    /** Says how many tests passed, and leaves with 1 if one did not. */
    static void finish() {
        end();
        System.out.println(passed + " passed, " + failed + " failed");
        System.exit(failed == 0 ? 0 : 1);
    }

    static void due(String what, int got, int want) {
        if (got != want) {
            wrong(what + " answered " + got + ", due is " + want);
        }
    }

    static void dueAll(String what, int[] got, int... want) {
        if (!java.util.Arrays.equals(got, want)) {
            wrong(what + " answered " + java.util.Arrays.toString(got) + ", due is "
                + java.util.Arrays.toString(want));
        }
    }

    static void wrong(String what) {
        wrongHere++;
        System.out.println(name + ": " + what);
    }

    static void unknown(String what, Call call) {
        refused(what, call, NoSuchElementException.class);
    }

    static void unfit(String what, Call call) {
        refused(what, call, IllegalArgumentException.class);
    }

    private static void refused(String what, Call call, Class<?> due) {
        try {
            wrong(what + " answered " + call.ask() + ", due is " + due.getSimpleName());
        } catch (RuntimeException e) {
            if (e.getClass() != due) {
                wrong(what + " threw " + e + ", due is " + due.getSimpleName());
            }
        }
    }

    /** Feeds a text, with blanks up to the next twenty; its length. */
    static int feed(ContraryChairs x, String text) {
        for (int i = 0; i < text.length(); i += 20) {
            int[] five = new int[5];
            for (int j = 0; j < 20; j++) {
                int sign = i + j < text.length() ? text.charAt(i + j) : ' ';
                five[j / 4] = five[j / 4] << 8 | sign;
            }
            x.feed(five[0], five[1], five[2], five[3], five[4]);
        }
        return text.length();
    }

    static int academy(ContraryChairs x, String text) {
        return x.academy(feed(x, text));
    }

    static int law(ContraryChairs x, String text) {
        return x.law(feed(x, text));
    }

    static int book(ContraryChairs x, String text) {
        return x.book(feed(x, text));
    }

    /** A new object with this academy, which must be without fault. */
    static ContraryChairs with(String text) {
        ContraryChairs x = new ContraryChairs();
        int men = academy(x, text);
        if (men < 0) {
            wrong("academy " + text + " has fault " + (men + 10) + " at " + x.fault());
        }
        return x;
    }

    static String times(int n, String text) {
        return text.repeat(n);
    }

    /** So many men of an age, who believe nothing. */
    static String men(int n) {
        return times(n, "man 1;");
    }

    /** Seats for the first n men, in their order. */
    static String seats(int n) {
        StringBuilder s = new StringBuilder();
        for (int man = 0; man < n; man++) {
            s.append("seat ").append(man).append(';');
        }
        return s.toString();
    }

    /** One question, and for each digit a man of that side; all of them sit. */
    static String bench(String sides) {
        StringBuilder s = new StringBuilder("question 3;chairs 12;");
        for (int i = 0; i < sides.length(); i++) {
            s.append("man 1 ").append(sides.charAt(i)).append(';');
        }
        return s + seats(sides.length());
    }

    /** A new object with this academy and this law, both without fault. */
    static ContraryChairs with(String text, String law) {
        ContraryChairs x = with(text);
        if (law(x, law) != 1) {
            wrong("law " + law + " has a fault at " + x.fault());
        }
        return x;
    }

    static int[] row(ContraryChairs x) {
        int[] row = new int[x.told(4)];
        for (int chair = 0; chair < row.length; chair++) {
            row[chair] = x.chair(chair);
        }
        return row;
    }

    static int[] sums(ContraryChairs x) {
        return new int[] {x.sums(0), x.sums(1), x.sums(2), x.sums(3)};
    }

    /** What can be seen of the state in some 250 calls at most, but for refusals and the fault of the latest text. */
    static int[] state(ContraryChairs x) {
        java.util.List<Integer> seen = new java.util.ArrayList<>();
        for (int what = 0; what <= 8; what++) {
            seen.add(x.told(what));
        }
        for (int question = 0; question < x.told(0); question++) {
            seen.add(x.sides(question));
        }
        for (int man = 0; man < x.told(1); man++) {
            for (int what = 0; what <= 4; what++) {
                seen.add(x.man(man, what));
            }
            for (int question = 0; question < x.told(0); question++) {
                seen.add(x.believes(man, question));
            }
            seen.add(x.score(man));
        }
        for (int year = 1; year < x.told(3) && year < 20; year++) {
            seen.add(x.taken(year));
        }
        for (int each : row(x)) {
            seen.add(each);
        }
        for (int each : sums(x)) {
            seen.add(each);
        }
        seen.add(x.next());
        seen.add(x.ahead(9, 0));
        seen.add(x.right());
        for (int what = 0; what <= 2; what++) {
            seen.add(x.count(what));
        }
        return seen.stream().mapToInt(Integer::intValue).toArray();
    }
}
