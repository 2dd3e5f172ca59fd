import java.util.NoSuchElementException;

/** What the tests share: telling texts, and saying what was due. */
final class Check {
    private static int passed;
    private static int failed;
    private static int wrongHere;
    private static String name = "";

    interface Call {
        int ask();
    }

    private Check() {
    }

    static void begin(String test) {
        end();
        name = test;
        wrongHere = 0;
    }

    private static void end() {
        if (name.isEmpty()) {
            return;
        }
        if (wrongHere == 0) {
            passed++;
        } else {
            failed++;
        }
    }

    /** Says how many tests passed, and leaves with 1 if one did not. */
    static void finish() {
        end();
        System.out.println(passed + " passed, " + failed + " failed");
        System.exit(failed == 0 ? 0 : 1);
    }

    static void due(String what, int got, int want) {
        if (got != want) {
            wrong(what + " answered " + got + ", due is " + want);
        }
    }

    static void dueAll(String what, int[] got, int... want) {
        if (!java.util.Arrays.equals(got, want)) {
            wrong(what + " answered " + java.util.Arrays.toString(got) + ", due is "
                + java.util.Arrays.toString(want));
        }
    }

    static void wrong(String what) {
        wrongHere++;
        System.out.println(name + ": " + what);
    }

    static void unknown(String what, Call call) {
        refused(what, call, NoSuchElementException.class);
    }

    static void unfit(String what, Call call) {
        refused(what, call, IllegalArgumentException.class);
    }

    private static void refused(String what, Call call, Class<?> due) {
        try {
            wrong(what + " answered " + call.ask() + ", due is " + due.getSimpleName());
        } catch (RuntimeException e) {
            if (e.getClass() != due) {
                wrong(what + " threw " + e + ", due is " + due.getSimpleName());
            }
        }
    }

    /** Feeds a text, with blanks up to the next twenty; its length. */
    static int feed(ContraryChairs x, String text) {
        for (int i = 0; i < text.length(); i += 20) {
            int[] five = new int[5];
            for (int j = 0; j < 20; j++) {
                int sign = i + j < text.length() ? text.charAt(i + j) : ' ';
                five[j / 4] = five[j / 4] << 8 | sign;
            }
            x.feed(five[0], five[1], five[2], five[3], five[4]);
        }
        return text.length();
    }

    static int academy(ContraryChairs x, String text) {
        return x.academy(feed(x, text));
    }

    static int law(ContraryChairs x, String text) {
        return x.law(feed(x, text));
    }

    static int book(ContraryChairs x, String text) {
        return x.book(feed(x, text));
    }

    /** A new object with this academy, which must be without fault. */
    static ContraryChairs with(String text) {
        ContraryChairs x = new ContraryChairs();
        int men = academy(x, text);
        if (men < 0) {
            wrong("academy " + text + " has fault " + (men + 10) + " at " + x.fault());
        }
        return x;
    }
}
