import java.lang.reflect.Method;
import java.lang.reflect.Modifier;
import java.math.BigInteger;
import java.util.ArrayList;
import java.util.List;

/**
 * The edges that the document's sentences on what is asked name, each with a test of its own that bears its words:
 * promises 21 to 53, and the terms of BREAK to HEIR.
 */
public final class AskedEdges {
    private static final int NONE = ContraryChairs.NONE;
    private static final String SALON = "question 2;question 3;chairs 3;man 40 0 0;man 30 1 1;man 50 1 2;"
        + "man 20 0 1;man 60 0 0;seat 0;praise 1 2 5;dies 3 4;";
    private static final String TWO = "man 1;man 1;seat 0;";
    private static final String THREE = "man 1;man 1;man 1;seat 0;";
    private static final String LEAST = "512*512*512*16";

    private AskedEdges() {
    }

    public static void main(String[] args) throws Exception {
        nothingStaysChanged();
        nothingIsLeft();
        ahead();
        when();
        breaks();
        praises();
        waysToPraise();
        beliefs();
        dead();
        right();
        enemies();
        votes();
        skip();
        middle();
        flip();
        patrons();
        allies();
        rankAndLead();
        wants();
        stays();
        doomed();
        seams();
        pair();
        quorum();
        kin();
        heir();
        draws();
        fates();
        deathsBySeeds();
        span();
        images();
        counts();
        Check.finish();
    }

    private static ContraryChairs old(ContraryChairs x) {
        for (int i = 0; i < 4; i++) {
            x.years(60);
        }
        return x;
    }

    private static void nothingStaysChanged() throws Exception {
        Check.begin("Asked, nothing stays changed");
        List<String> doing = List.of("feed", "academy", "law", "book", "years", "undo", "die", "praise", "image", "restore");
        for (Method m : ContraryChairs.class.getDeclaredMethods()) {
            if (!Modifier.isPublic(m.getModifiers()) || doing.contains(m.getName())) {
                continue;
            }
            ContraryChairs x = Check.with(SALON, "differs * 10 + waits + number");
            Check.book(x, "1 2;");
            x.years(1);
            x.praise(1, 2);
            x.image();
            x.years(1);
            int[] was = Check.state(x);
            Object[] a = new Object[m.getParameterCount()];
            for (int i = 0; i < a.length; i++) {
                a[i] = m.getName().equals("patrons") && i == 1 ? 3 : 1;
            }
            m.invoke(x, a);
            Check.dueAll("behind " + m.getName(), Check.state(x), was);
        }
    }

    private static void nothingIsLeft() throws Exception {
        Check.begin("3: nothing of a greater ACADEMY told ahead is left, whatever is asked");
        for (Method m : ContraryChairs.class.getDeclaredMethods()) {
            if (Modifier.isPublic(m.getModifiers()) && !List.of("feed", "academy", "law", "book", "status")
                .contains(m.getName())) {
                for (int n = 0; n <= 3; n++) {
                    ContraryChairs used = small(great());
                    ContraryChairs fresh = small(new ContraryChairs());
                    Object[] a = new Object[m.getParameterCount()];
                    for (int i = 0; i < a.length; i++) {
                        a[i] = m.getName().equals("patrons") && i == 0 ? 2 - n % 2 * 2 : i < 2 ? n : 1;
                    }
                    Check.due(m.getName() + " " + java.util.Arrays.toString(a), answer(m, used, a), answer(m, fresh, a));
                    Check.dueAll("state", Check.state(used), Check.state(fresh));
                }
            }
        }
    }

    private static int answer(Method m, ContraryChairs x, Object[] a) throws Exception {
        try {
            return (int) m.invoke(x, a);
        } catch (java.lang.reflect.InvocationTargetException e) {
            return e.getCause() instanceof java.util.NoSuchElementException ? -1000 : -2000;
        }
    }

    /** Much of all that there can be, and some years of it; man 4, one behind the small one's last, waits. */
    private static ContraryChairs great() {
        ContraryChairs x = Check.with("question3;question3;question3;chairs12;" + Check.times(8, "man9 0 1 2;man50 2 1 0;")
            + Check.seats(10).replace(" ", "").replace("seat4;", "seat10;") + Check.times(6, "dies1 0;dies2 1;") + Check.times(6, "praise1 2 9;praise2 3 9;"));
        Check.law(x, "999 * (number + 1) + 999 * (number + 1)");
        Check.book(x, "1 0;1 1;1 2;1 3;2 4;2 5;2 6;2 7;3 8;3 9;3 10;3 11;");
        x.beliefs(3, 0);
        x.praises(12, 2, 9, 0);
        x.patrons(14, 12, 9, 0);
        x.years(3);
        x.praise(12, 9);
        x.image();
        return x;
    }

    private static ContraryChairs small(ContraryChairs x) {
        Check.academy(x, "question 2;man 30 0;man 20 1;man 10 1;man 9 0;seat 1;praise 3 2 1;dies 4 3;");
        Check.book(x, "1 void;");
        x.praise(2, 3);
        return x;
    }

    // ---- promises 21 to 24

    private static int[] ahead(ContraryChairs x, int years) {
        return new int[] {x.ahead(years, 0), x.ahead(years, 1), x.ahead(years, 2)};
    }

    private static void ahead() {
        Check.begin("21: in 0 YEARS: now");
        ContraryChairs x = Check.with(SALON);
        Check.dueAll("the salon", ahead(x, 0), 0, 1, 0);
        x.years(2);
        Check.dueAll("VOID YEARS from now on", ahead(x, 0), 2, 2, 0);
        Check.begin("21: in 60 YEARS");
        Check.dueAll("without men", ahead(new ContraryChairs(), 60), NONE, 0, 60);
        ContraryChairs y = Check.with(TWO, "year / 60");
        Check.dueAll("59", ahead(y, 59), 0, 1, 59);
        Check.dueAll("60", ahead(y, 60), 1, 2, 59);
        y.years(20);
        Check.dueAll("60 from year 21 on", ahead(y, 60), 1, 2, 59);
        Check.begin("21: who is the LAST one (NONE)");
        Check.dueAll("he dies", ahead(Check.with("man 1;seat 0;dies 1 0;"), 1), NONE, 0, 1);
        Check.due("not yet", Check.with("man 1;seat 0;dies 1 0;").ahead(0, 0), 0);
        Check.begin("21: as many as there are CHAIRS");
        Check.dueAll("twelve", ahead(Check.with("chairs 12;" + Check.men(16) + Check.seats(12), "number"), 4), 12, 12, 0);
        Check.begin("21: behind YEAR 200");
        Check.dueAll("60 void ones", ahead(old(new ContraryChairs()), 60), NONE, 0, 60);
    }

    private static void when() {
        Check.begin("22: the YEAR, of the next 60");
        Check.due("this one", Check.with(TWO, "1").when(1), 1);
        ContraryChairs x = Check.with(TWO, "year - 59");
        Check.due("the 60th", x.when(1), 60);
        x = Check.with(TWO, "year - 60");
        Check.due("the 61st", x.when(1), NONE);
        x.years(1);
        Check.due("the 60th from year 2 on", x.when(1), 61);
        Check.begin("22: NONE");
        x = Check.with("chairs 2;" + Check.men(5) + "seat 0;seat 1;dies 1 2;", "number");
        x.years(1);
        Check.dueAll("who left, sits, is dead, is to come, was taken in", new int[] {x.when(0), x.when(1), x.when(2),
            x.when(3), x.when(4)}, NONE, NONE, NONE, 2, NONE);
        Check.due("nobody is", Check.with(TWO, "0").when(1), NONE);
        Check.due("who would but dies", Check.with(TWO + "dies 1 1;", "1").when(1), NONE);
    }

    private static void breaks() {
        Check.begin("23: BREAK, the first YEAR from now on");
        Check.due("this one", new ContraryChairs().breaks(), 1);
        ContraryChairs x = new ContraryChairs();
        x.years(60);
        Check.due("this one, later", x.breaks(), 61);
        Check.due("the last one", old(new ContraryChairs()).breaks(), 200);
        Check.begin("23: of sixteen who come one by one (NONE there can't be: at the latest nobody is left)");
        x = Check.with("chairs 2;" + Check.men(16), "number + 1");
        Check.due("year 17", x.breaks(), 17);
        x.years(16);
        Check.due("year 17 still", x.breaks(), 17);
        x.years(1);
        Check.due("year 18", x.breaks(), 18);
    }

    private static int[] praises(ContraryChairs x, int man, int n, int by) {
        return new int[] {x.praises(man, n, by, 0), x.praises(man, n, by, 1)};
    }

    private static void praises() {
        Check.begin("24: none is needed");
        ContraryChairs x = Check.with(TWO, "1");
        Check.dueAll("in 1", praises(x, 1, 1, 1), 0, 0);
        Check.dueAll("in 3", praises(x, 1, 3, 99), 0, 0);
        Check.dueAll("in the third of 3", praises(Check.with(TWO, "year / 3"), 1, 3, 1), 0, 0);
        Check.begin("24: NONE: by none");
        Check.dueAll("in the third alone", praises(Check.with(TWO, "year / 3 * 2 - 1"), 1, 2, 1), NONE, NONE);
        Check.dueAll("in the fourth alone", praises(Check.with(TWO, "year / 4 * 2 - 1"), 1, 3, 1), NONE, NONE);
        x = Check.with("chairs 2;" + Check.men(5) + "seat 0;seat 1;dies 1 2;dies 2 3;", "number");
        x.years(1);
        Check.dueAll("who left", praises(x, 0, 3, 99), NONE, NONE);
        Check.dueAll("who sits", praises(x, 1, 3, 99), NONE, NONE);
        Check.dueAll("who is dead", praises(x, 2, 3, 99), NONE, NONE);
        Check.dueAll("who is to die as the YEAR goes by", praises(x, 3, 3, 99), NONE, NONE);
        Check.dueAll("who was taken in", praises(x, 4, 3, 99), NONE, NONE);

        Check.begin("24: by N (1 to 99)");
        x = Check.with(TWO, "0");
        Check.dueAll("by 1 to above 0", praises(x, 1, 1, 1), 1, 2);
        x = Check.with(TWO, "0 - 1");
        Check.dueAll("by 1 to 0", praises(x, 1, 1, 1), NONE, NONE);
        Check.dueAll("by 2", praises(x, 1, 1, 2), 1, 2);
        Check.dueAll("by 99", praises(Check.with(TWO, "0 - 98"), 1, 1, 99), 1, 2);
        Check.dueAll("by 99 to 0", praises(Check.with(TWO, "0 - 99"), 1, 1, 99), NONE, NONE);
        Check.dueAll("by 5 to as much", praises(Check.with(THREE, "(2-number)*5+1"), 2, 1, 5), NONE, NONE);
        Check.dueAll("by 6 to more", praises(Check.with(THREE, "(2-number)*5+1"), 2, 1, 6), 1, 3);
        Check.begin("24: praise aside, or what is left of it, does not matter");
        x = Check.with(TWO, "0 - 100");
        for (int i = 0; i < 12; i++) {
            x.praise(1, 8);
        }
        Check.dueAll("96 by now", praises(x, 1, 1, 5), 1, 2);
        Check.dueAll("this YEAR alone", praises(x, 1, 3, 5), 1, 20000);
        Check.dueAll("too few", praises(x, 1, 3, 4), NONE, NONE);
    }

    private static void waysToPraise() {
        Check.begin("24: the first way: nobody ahead of MEN");
        ContraryChairs x = Check.with(TWO, "0");
        Check.dueAll("the last of 2", praises(x, 1, 2, 1), 1, 2);
        Check.dueAll("the last of 3", praises(x, 1, 3, 1), 1, 2);
        x = Check.with(TWO, "3 - 2 * year");
        Check.dueAll("in the first YEAR none is needed", praises(x, 1, 3, 1), 0, 0);
        x = Check.with(THREE, "3 - 2 * year");
        Check.dueAll("in the first YEAR alone", praises(x, 1, 3, 1), 1, 20000);
        Check.dueAll("of 2", praises(x, 1, 2, 1), 1, 200);
        Check.dueAll("of 1", praises(x, 1, 1, 1), 1, 2);
        Check.begin("24: one MAN who is WAITING then: the only one, between two who sit");
        x = Check.with("man 1;man 1;man 1;seat 0;seat 2;", "0");
        Check.dueAll("the one in the middle", praises(x, 1, 1, 1), 1, 2);
        x = Check.with("man 1;man 1;man 1;seat 1;seat 2;", "0");
        Check.dueAll("the first", praises(x, 0, 1, 1), 1, 1);
        x = Check.with("man 1;man 1;man 1;seat 0;seat 1;", "0");
        Check.dueAll("the last", praises(x, 2, 1, 1), 1, 3);
        Check.begin("24: digits to the base 100 (each MAN and 1)");
        x = Check.with("chairs 2;" + Check.men(16) + "seat 7;", "3 - 2 * year");
        Check.dueAll("the last MAN", praises(x, 15, 3, 1), 1, 160000);
        Check.dueAll("the first MAN", praises(x, 0, 3, 1), 1, 10000);

        // 4 may come when three sit, as soon as he is not level; till then 1, 2 and 3 are level with each other.
        Check.begin("24: the fewest praised YEARS: three of three");
        x = Check.with(Check.men(5) + "seat 0;", "number / 4 * (sat * 50 - 150) + 1");
        Check.dueAll("1, then 2, then he", praises(x, 4, 3, 5), 3, 20305);
        Check.dueAll("two YEARS are too few", praises(x, 4, 2, 5), NONE, NONE);
        Check.dueAll("by 50 he is level when two sit", praises(x, 4, 3, 50), 3, 20305);
        Check.begin("24: the fewest praised YEARS: two of three");
        Check.dueAll("by 51", praises(x, 4, 3, 51), 2, 205);
        Check.dueAll("by 51, of two", praises(x, 4, 2, 51), 2, 205);
        Check.dueAll("by 99, of one", praises(x, 4, 1, 99), NONE, NONE);
        Check.begin("24: the empty ROW: praise does nothing in its YEAR");
        Check.dueAll("the eldest", praises(Check.with("man 1;man 2;"), 1, 1, 9), 0, 0);
        Check.dueAll("the other one", praises(Check.with("man 1;man 2;"), 0, 1, 9), NONE, NONE);
        Check.dueAll("the other one, a YEAR later", praises(Check.with("man 1;man 2;", "0"), 0, 2, 9), 1, 1);
    }

    // ---- promises 25 to 28

    private static int[] believed(ContraryChairs x, int man) {
        return new int[] {x.beliefs(man, 0), x.beliefs(man, 1)};
    }

    private static void beliefs() {
        String six = Check.times(6, "question 3;") + "man 1 2 2 2 2 2 2;man 1 0 1 2 0 1 2;seat 0;";
        Check.begin("25: without a BOOK all ways");
        ContraryChairs x = Check.with(six, "agrees / 6");
        Check.dueAll("729", believed(x, 1), 729, 0);
        Check.begin("25: one way alone, the last");
        Check.book(x, "1 1;");
        Check.dueAll("as 0 believes", believed(x, 1), 1, 222222);
        Check.begin("26: one way alone");
        for (int question = 0; question < 6; question++) {
            Check.due("question " + question, x.sure(1, question), 2);
        }
        Check.begin("25: all but one");
        Check.book(x, "1 void;");
        Check.dueAll("728", believed(x, 1), 728, 0);
        ContraryChairs y = Check.with(six.replace("2 2 2 2 2 2", "0 0 0 0 0 0"), "agrees / 6");
        Check.book(y, "1 void;");
        Check.dueAll("728, but for the first", believed(y, 1), 728, 1);
        Check.begin("26: it may be several");
        Check.dueAll("of 728", new int[] {y.sure(1, 0), y.sure(1, 5)}, NONE, NONE);
        ContraryChairs two = Check.with("question 3;man 1 1;man 1 1;seat 0;", "differs");
        Check.book(two, "1 1;");
        Check.dueAll("0 or 2", new int[] {two.sure(1, 0), two.beliefs(1, 0), two.beliefs(1, 1)}, NONE, 2, 0);
        Check.begin("26: all of a SIDE, the one in the middle");
        two = Check.with("question 3;man 1 1;man 1 1;seat 0;", "agrees");
        Check.book(two, "1 1;");
        Check.due("1", two.sure(1, 0), 1);
        Check.begin("26: all of a SIDE, the least and the greatest");
        Check.book(y, "1 1;");
        Check.dueAll("0", new int[] {y.sure(1, 0), y.sure(1, 5), y.beliefs(1, 1)}, 0, 0, 0);
        Check.begin("25 and 26: no way");
        Check.book(x, "1 0;");
        Check.dueAll("0, NONE", believed(x, 1), 0, NONE);
        Check.due("there is none", x.sure(1, 0), NONE);
        Check.begin("25: without QUESTIONS");
        ContraryChairs z = Check.with(TWO, "1");
        Check.dueAll("one way", believed(z, 1), 1, 0);
        Check.book(z, "1 void;");
        Check.dueAll("and not", believed(z, 1), 0, NONE);
        Check.begin("25: right in all lines, also in YEAR 60");
        Check.book(z, "1 1;60 void;");
        Check.dueAll("one way", believed(z, 1), 1, 0);
        Check.book(z, "1 1;60 1;");
        Check.dueAll("and not", believed(z, 1), 0, NONE);
        Check.begin("25: from the beginning on");
        ContraryChairs w = Check.with("question 2;man 1 0;man 1 0;seat 0;");
        Check.book(w, "1 1;");
        w.die(1);
        w.years(60);
        Check.dueAll("in year 61, though he is dead", believed(w, 1), 1, 1);
    }

    private static void dead() {
        Check.begin("27: as bits: all sixteen, and bit 16");
        ContraryChairs x = Check.with(Check.men(16) + "seat 0;", "0");
        Check.due("without a BOOK, year 1", x.dead(1), 131071);
        Check.due("without a BOOK, year 60", x.dead(60), 131071);
        Check.book(x, "60 1;");
        Check.due("never", x.dead(1), 0);
        Check.due("by the last one who sits, in year 60", x.dead(60), 1);
        Check.book(x, "60 void;");
        Check.due("by all but who sits", x.dead(60), 131070);
        Check.due("without men", new ContraryChairs().dead(1), 65536);
        ContraryChairs none = new ContraryChairs();
        Check.book(none, "1 void;");
        Check.due("without men, a line that is right", none.dead(1), 65536);

        // 1 and 2 are level in year 60.
        Check.begin("27: in a YEAR (1 to 60)");
        ContraryChairs y = Check.with(THREE, "year / 60");
        Check.book(y, "60 1;");
        Check.due("year 60: 2, and 0, by whom the ROW is empty", y.dead(60), 5);
        Check.due("year 59: by 0 man 1 would have come then", y.dead(59), 4);
        Check.due("year 1", y.dead(1), 4);
        Check.begin("27: behind those told");
        ContraryChairs z = Check.with(Check.bench("010") + "man 1 2;dies 1 1;", "1");
        Check.book(z, "1 3;");
        Check.due("0 dies behind 1, so 2 has left by then", z.dead(1), 65536 + 7);
        Check.begin("27: a death more of one who is dead by then does nothing");
        ContraryChairs w = Check.with(THREE + "dies 2 2;", "1");
        Check.book(w, "2 1;");
        Check.due("year 1: 2 dies a YEAR ahead, and 1 comes at once", w.dead(1), 65536);
        Check.due("year 2: 2 is dead; by 0 the ROW is empty", w.dead(2), 65536 + 4 + 1);
        Check.due("year 3: too late to change it", w.dead(3), 65536 + 7);
        Check.due("year 60", w.dead(60), 65536 + 7);
        Check.book(w, "2 void;");
        Check.due("wrong without, so wrong by 2 too", w.dead(2), 2);
    }

    private static void right() {
        Check.begin("28: none, and all lines");
        ContraryChairs x = Check.with(TWO, "1");
        Check.due("no lines", x.right(), 0);
        Check.book(x, Check.times(12, "1 1;"));
        Check.due("all twelve", x.right(), 12);
        Check.book(x, Check.times(11, "1 1;") + "1 0;");
        Check.due("all but the last", x.right(), 11);
        Check.book(x, "1 void;" + Check.times(11, "1 1;"));
        Check.due("the first is not", x.right(), 0);
        Check.begin("28: ahead of the first that is not, as they stand in the BOOK");
        Check.book(x, "60 void;2 void;1 0;1 1;");
        Check.due("two", x.right(), 2);
        Check.begin("28: YEAR 60");
        x = Check.with(TWO, "year / 60");
        Check.book(x, "59 void;60 1;60 void;");
        Check.due("two", x.right(), 2);
        Check.begin("28: from YEAR 1 on, as told");
        x.die(1);
        x.years(60);
        x.praise(0, 9);
        Check.due("two still", x.right(), 2);
        Check.begin("28: as told deaths and told praise are");
        x = Check.with(THREE + "praise 2 2 1;dies 1 1;", "year - 2");
        Check.book(x, "1 void;2 2;");
        Check.due("both", x.right(), 2);
    }

    // ---- promises 29, 30 and 43

    private static void enemies() {
        Check.begin("29: NONE: there is no other one alive");
        ContraryChairs x = Check.with("question 2;man 1 0;");
        Check.due("alone", x.enemy(0), NONE);
        x = Check.with("question 2;man 1 0;man 1 1;");
        x.die(1);
        Check.due("the other one is dead", x.enemy(0), NONE);
        Check.due("of the dead one", x.enemy(1), 0);
        Check.begin("29: alive: sitting, left or WAITING");
        x = Check.with("chairs 2;question 2;question 2;man 1 0 0;man 1 1 1;man 1 0 1;man 1 0 0;seat 1;seat 2;", "differs");
        x.years(1);
        Check.dueAll("1 left, 2 and 0 or 3 are level", new int[] {x.man(1, 1), x.enemy(0), x.enemy(3)}, 1, 1, 1);
        x.die(1);
        Check.dueAll("2 sits", new int[] {x.enemy(0), x.enemy(3), x.enemy(2)}, 2, 2, 0);
        x = Check.with("chairs 2;question 2;man 1 1;man 1 0;man 1 1;man 1 0;seat 0;seat 1;", "1 + number");
        x.years(1);
        Check.dueAll("0 left and is the first all the same", new int[] {x.man(0, 1), x.enemy(1), x.enemy(3)}, 2, 0, 0);
        Check.begin("29: of these the first; who differs in none");
        x = Check.with(Check.men(16));
        Check.dueAll("of sixteen", new int[] {x.enemy(0), x.enemy(1), x.enemy(15)}, 1, 0, 0);

        Check.begin("30: 0 without an ENEMY, NONE likewise");
        x = Check.with("man 1;");
        Check.dueAll("alone", new int[] {x.ring(0, 0), x.ring(0, 1)}, 0, NONE);
        x = Check.with(Check.men(2));
        x.die(1);
        Check.dueAll("the last alive", new int[] {x.ring(0, 0), x.ring(0, 1)}, 0, NONE);
        x.die(0);
        Check.dueAll("all dead", new int[] {x.ring(0, 0), x.ring(1, 1)}, 0, NONE);
        Check.begin("30: two, and sixteen");
        x = Check.with(Check.men(2));
        Check.dueAll("two", new int[] {x.ring(0, 0), x.ring(1, 0), x.ring(0, 1), x.ring(1, 1)}, 2, 2, 0, 0);
        x = Check.with(Check.men(16));
        Check.dueAll("15 comes to 0 and 1", new int[] {x.ring(15, 0), x.ring(15, 1)}, 2, 0);
        x.die(0);
        Check.dueAll("15 comes to 1 and 2", new int[] {x.ring(15, 0), x.ring(15, 1), x.ring(0, 1)}, 2, 1, 1);

        Check.begin("43: RINGED: alive, and come again");
        Check.due("nobody", new ContraryChairs().ringed(), 0);
        Check.due("one", Check.with("man 1;").ringed(), 0);
        Check.due("two", Check.with(Check.men(2)).ringed(), 3);
        x = Check.with(Check.men(16));
        Check.due("the first two of sixteen", x.ringed(), 3);
        for (int man = 0; man < 14; man++) {
            x.die(man);
        }
        Check.due("the last two", x.ringed(), 3 << 14);
        x.die(14);
        Check.due("the last one", x.ringed(), 0);
        x = Check.with("question 2;question 2;man 1 0 0;man 1 1 1;man 1 0 1;man 1 1 0;");
        Check.due("two rings", x.ringed(), 15);
    }

    // ---- promises 31 to 34

    private static void votes() {
        ContraryChairs x = Check.with(Check.bench("000000000002"));
        Check.begin("31: by K (1 to 12), R (0 to 11)");
        Check.due("all", x.vote(0, 1, 0), 0);
        Check.due("the twelfth CHAIR", x.vote(0, 12, 11), 2);
        Check.due("the first CHAIR", x.vote(0, 12, 0), 0);
        Check.due("every eleventh", Check.with(Check.bench("200000000002")).vote(0, 11, 0), 2);
        Check.begin("31: NONE: nobody sits there");
        Check.dueAll("R is K or more", new int[] {x.vote(0, 1, 1), x.vote(0, 2, 2), x.vote(0, 1, 11), x.vote(0, 11, 11),
            x.vote(0, 3, 6)}, NONE, NONE, NONE, NONE, NONE);
        ContraryChairs two = Check.with(Check.bench("12"));
        Check.dueAll("two sit", new int[] {two.vote(0, 3, 0), two.vote(0, 3, 1), two.vote(0, 3, 2), two.vote(0, 12, 11)},
            1, 2, NONE, NONE);
        Check.due("nobody at all", Check.with("question 2;").vote(0, 1, 0), NONE);
        Check.begin("31: of these the least");
        Check.due("2 and 1", Check.with(Check.bench("21")).vote(0, 1, 0), 1);
        Check.due("2 1 0", Check.with(Check.bench("210")).vote(0, 1, 0), 0);
        Check.due("2 1 2 1 0", Check.with(Check.bench("21210")).vote(0, 1, 0), 1);
        Check.due("2 2 0", Check.with(Check.bench("220")).vote(0, 1, 0), 2);
    }

    private static int skipOf(String sides) {
        return Check.with(Check.bench(sides)).skip(0);
    }

    private static void skip() {
        Check.begin("32: every second CHAIR (one and more)");
        Check.due("nobody", skipOf(""), 0);
        Check.due("one", skipOf("2"), 1);
        Check.due("two alike", skipOf("11"), 1);
        Check.due("three", skipOf("101"), 2);
        Check.due("three unlike", skipOf("110"), 1);
        Check.due("none anywhere", skipOf("001122001122"), 1);
        Check.begin("32: of a full ROW");
        Check.due("all even and all odd ones", skipOf("010101010101"), 6);
        // Even ones 0 1 0 1 0 1, odd ones 2 1 1 1 2 0; and so on.
        Check.due("odd ones in the middle", skipOf("021101110210"), 3);
        Check.due("even ones at the end", skipOf("000110111011"), 4);
        Check.due("even ones at the beginning", skipOf("010201011201"), 4);
        Check.due("broken by one", skipOf("010211020102"), 3);
    }

    private static void middle() {
        Check.begin("33: NONE: nobody sits");
        Check.due("nobody at all", new ContraryChairs().middle(), NONE);
        Check.due("some wait", Check.with(Check.men(3)).middle(), NONE);
        Check.begin("33: one, and two");
        Check.due("one", Check.with("man 1;man 1;seat 1;").middle(), 1);
        Check.due("two: the first in the ROW", Check.with("question 2;man 1 0;man 1 1;seat 1;seat 0;").middle(), 1);
        Check.begin("33: of those who sit");
        Check.due("two unlike each, though nobody's SIDES are nearer", Check.with(Check.times(3, "question 2;")
            + "man 1 1 0 0;man 1 0 1 0;man 1 0 0 1;man 1 0 0 0;" + Check.seats(3)).middle(), 0);
        Check.begin("33: of these the first in the ROW, not by number");
        Check.due("all alike", Check.with("chairs 12;" + Check.men(12) + "seat 11;"
            + Check.seats(11)).middle(), 11);
        Check.due("the later two differ less", Check.with("question 2;man 1 0;man 1 1;man 1 0;seat 1;seat 2;seat 0;")
            .middle(), 2);
    }

    private static int flipOf(String sides) {
        return Check.with(Check.bench(sides)).flip(0);
    }

    private static void flip() {
        Check.begin("34: NONE: by none");
        Check.due("nobody", flipOf(""), NONE);
        Check.due("one (one at least is left)", flipOf("0"), NONE);
        Check.due("one of the last side", flipOf("2"), NONE);
        Check.due("all alike", flipOf("111111111111"), NONE);
        Check.begin("34: one must leave");
        Check.due("0 1", flipOf("01"), 1);
        Check.due("1 0", flipOf("10"), 1);
        Check.due("1 1 0", flipOf("110"), 1);
        Check.due("2 2 1 1", flipOf("2211"), 1);
        Check.begin("34: a lesser SIDE need not be more, a greater one must be");
        Check.due("1 1 1 0 0", flipOf("11100"), 1);
        Check.due("0 0 0 1 1", flipOf("00011"), 2);
        Check.due("1 1 1 2 2", flipOf("11122"), 2);
        Check.begin("34: all but one must leave");
        Check.due("eleven and one", flipOf("000000000001"), 11);
        Check.due("eleven and a lesser one", flipOf("111111111110"), 10);
        Check.begin("34: two SIDES must give way");
        Check.due("0 0 1 1 2", flipOf("00112"), 1);
        Check.due("0 0 0 1 1 1 2 2", flipOf("00011122"), 1);
        Check.due("2 alone may win", flipOf("0000222"), 2);
    }

    // ---- promise 35

    private static int[] patrons(ContraryChairs x, int man, int other, int by) {
        return new int[] {x.patrons(man, other, by, 0), x.patrons(man, other, by, 1)};
    }

    private static void patrons() {
        Check.begin("35: all pairs are QUIET");
        ContraryChairs x = Check.with(Check.men(16) + "seat 0;", "0 - 999");
        Check.dueAll("fifteen, and nobody", patrons(x, 14, 15, 99), 256, 0);
        Check.dueAll("sixteen by an empty ROW", patrons(Check.with(Check.men(16)), 0, 15, 99), 289, 0);
        Check.begin("35: by N (1 to 99)");
        // 1 needs 100 more: 99 of one patron do not do, but of both.
        x = Check.with(THREE, "0 - 99 * number");
        Check.dueAll("by 98", patrons(x, 1, 2, 98), due(new int[] {-99, -198}, 98, 0, 1));
        Check.dueAll("by 99", patrons(x, 1, 2, 99), due(new int[] {-99, -198}, 99, 0, 1));
        x = Check.with(THREE, "0");
        Check.dueAll("by 1", patrons(x, 1, 2, 1), due(new int[] {0, 0}, 1, 0, 1));

        // He who is ahead stays so by his own patron's praise, and by nothing else.
        Check.begin("35: the first (100 times what the one does; a MAN and 1)");
        x = Check.with(THREE, "number");
        Check.dueAll("2's patron praises 2", patrons(x, 2, 1, 5), 3, 300);
        Check.dueAll("the other way round", patrons(x, 1, 2, 5), 3, 3);
        x = Check.with("chairs 12;" + Check.men(16) + Check.seats(12), "number");
        Check.dueAll("the last MAN", patrons(x, 15, 14, 5), 5, 1600);
        Check.dueAll("the last MAN's patron is the other one", patrons(x, 14, 15, 5), 5, 16);
        Check.begin("35: (and is not by now)");
        x = Check.with(THREE, "number * 10");
        Check.dueAll("he is, whatever they do", patrons(x, 2, 1, 1), 9, 0);

        // Twice praised the greatest numbers wrap: each patron can always bring his own in.
        Check.begin("35: NONE: no QUIET pair");
        x = Check.with(THREE, LEAST + " - 2");
        Check.dueAll("none", patrons(x, 1, 2, 1), 0, NONE);
        Check.dueAll("none, the other way round", patrons(x, 2, 1, 1), 0, NONE);

        Check.begin("35: this YEAR: deaths of it come between");
        x = Check.with(THREE + "dies 1 0;", "0");
        Check.dueAll("the eldest comes to an empty ROW", patrons(x, 1, 2, 9), 9, 0);
        x = Check.with(THREE + "dies 1 2;", "0");
        // Quiet: all in which 1 is praised by one of them; and he is waiting who is to die.
        Check.dueAll("he who dies is praised in vain", patrons(x, 1, 2, 9), 5, 2);
    }

    /** By trial of all pairs, for two WAITING men, 1 and 2, of such scores: how many are quiet, and the first. */
    private static int[] due(int[] scores, int by, int own, int others) {
        int many = 0;
        int first = NONE;
        for (int a = 0; a <= 2; a++) {
            for (int b = 0; b <= 2; b++) {
                boolean moves = false;
                for (int c = 0; c <= 2; c++) {
                    moves |= comes(scores, a, b, by) != own && comes(scores, c, b, by) == own;
                    moves |= comes(scores, a, b, by) != others && comes(scores, a, c, by) == others;
                }
                // What they do is 0 nobody, 1 man 1, 2 man 2; the answer's digits are a man and 1.
                first = many == 0 && !moves ? 100 * (a == 0 ? 0 : a + 1) + (b == 0 ? 0 : b + 1) : first;
                many += moves ? 0 : 1;
            }
        }
        return new int[] {many, first};
    }

    private static int comes(int[] scores, int a, int b, int by) {
        int one = scores[0] + (a == 1 ? by : 0) + (b == 1 ? by : 0);
        int two = scores[1] + (a == 2 ? by : 0) + (b == 2 ? by : 0);
        return one > two && one > 0 ? 0 : two > one && two > 0 ? 1 : NONE;
    }

    // ---- promises 36 to 39

    private static void allies() {
        Check.begin("36: none, and all");
        Check.due("alone", Check.with("man 1;").allies(0), 0);
        ContraryChairs x = Check.with(Check.men(16));
        Check.dueAll("of sixteen", new int[] {x.allies(0), x.allies(15)}, 65534, 32767);
        Check.begin("36: just what he does: in all QUESTIONS");
        x = Check.with(Check.times(6, "question 2;") + "man 1 0 0 0 0 0 0;man 1 0 0 0 0 0 1;man 1 1 0 0 0 0 0;"
            + "man 9 0 0 0 0 0 0;");
        Check.dueAll("five of six are too few", new int[] {x.allies(0), x.allies(1), x.allies(2), x.allies(3)}, 8, 0, 0, 1);
    }

    private static void rankAndLead() {
        Check.begin("37: 0: he is the greatest");
        ContraryChairs x = Check.with(Check.men(16) + "seat 0;", "number + 1");
        Check.dueAll("of fifteen", new int[] {x.rank(15), x.rank(14), x.rank(1)}, 0, 1, 14);
        Check.begin("37: also of one who is not WAITING");
        Check.due("who sits", x.rank(0), 15);
        x.die(15);
        Check.dueAll("who is dead is not counted, and is ranked", new int[] {x.rank(14), x.rank(15)}, 0, 0);
        x = Check.with("chairs 2;" + Check.men(4) + "seat 0;seat 1;", "number + 1");
        x.years(1);
        Check.dueAll("who left, and who was taken in", new int[] {x.rank(0), x.rank(3)}, 1, 0);
        Check.begin("37: a greater SCORE: as much is none");
        Check.due("all alike", Check.with(Check.men(16) + "seat 0;", "5").rank(7), 0);
        Check.due("nobody sits", Check.with(Check.men(3), "number").rank(0), 0);
        Check.begin("37: how many WAITING ones: the first MAN too");
        Check.due("0 is greater", Check.with("man 1;man 1;man 1;seat 1;", "9 - number").rank(2), 1);
        Check.begin("37: of this YEAR, as it begins");
        x = Check.with(THREE + "dies 1 2;praise 1 1 9;praise 2 2 99;", "number");
        Check.dueAll("2 is alive by then", new int[] {x.rank(0), x.rank(1), x.rank(2)}, 2, 0, 1);

        Check.begin("38: 0: nobody is WAITING");
        Check.due("no men", new ContraryChairs().lead(), 0);
        Check.due("all sit", Check.with("man 1;seat 0;", "9").lead(), 0);
        Check.begin("38: 0, if it is no more");
        Check.due("as much", Check.with(THREE, "9").lead(), 0);
        Check.due("an empty ROW", Check.with(Check.men(3), "number").lead(), 0);
        Check.begin("38: above the next one's");
        Check.due("1", Check.with(THREE, "number").lead(), 1);
        Check.due("the next of three", Check.with(Check.men(4) + "seat 0;", "number * number").lead(), 5);
        Check.due("the greatest first", Check.with(Check.men(4) + "seat 0;", "9 - number * number").lead(), 3);
        Check.due("the greatest, the least, the next", Check.with(Check.men(4) + "seat 0;",
            "9 - (number - 1) * (7 - 2 * number) * 4").lead(), 8);
        Check.due("both below 0", Check.with(THREE, "number - 9").lead(), 1);
        Check.due("both below 0, the greater one first", Check.with(THREE, "0 - number").lead(), 1);
        Check.due("the first MAN is the greatest", Check.with("man 1;man 1;man 1;seat 2;", "9 - 2 * number").lead(), 2);
        Check.begin("38: with one alone: his own, which may be below 0");
        Check.due("above", Check.with(TWO, "7").lead(), 7);
        Check.due("0", Check.with(TWO, "0").lead(), 0);
        Check.due("below", Check.with(TWO, "0 - 7").lead(), -7);
        Check.due("the least number", Check.with(TWO, LEAST).lead(), Integer.MIN_VALUE);
        Check.due("alone with an empty ROW", Check.with("man 1;", "7").lead(), 0);
        Check.begin("38: as the YEAR begins");
        Check.due("who is to die counts", Check.with(THREE + "dies 1 2;", "number").lead(), 1);
    }

    private static void wants() {
        Check.begin("39: WANTS (0 to 99)");
        Check.due("0", Check.with(TWO, "1").wants(1), 0);
        Check.due("1", Check.with(TWO, "0").wants(1), 1);
        Check.due("99", Check.with(TWO, "0 - 98").wants(1), 99);
        Check.begin("39: NONE: by none");
        Check.due("100", Check.with(TWO, "0 - 99").wants(1), NONE);
        Check.begin("39: more than the next one, not as much");
        Check.due("1 ahead of as much", Check.with(THREE, "9").wants(1), 1);
        Check.due("99", Check.with(THREE, "(2 - number) * 98").wants(2), 99);
        Check.due("100", Check.with(THREE, "(2 - number) * 99").wants(2), NONE);
        Check.begin("39: he is not WAITING");
        ContraryChairs x = Check.with("chairs 2;" + Check.men(5) + "seat 0;seat 1;dies 1 2;", "number");
        x.years(1);
        Check.dueAll("who left, sits, is dead, waits, was taken in", new int[] {x.wants(0), x.wants(1), x.wants(2),
            x.wants(3), x.wants(4)}, NONE, NONE, NONE, 0, NONE);
        Check.begin("39: is taken in in it: behind the YEAR's deaths");
        Check.due("he dies himself", Check.with(THREE + "dies 1 2;", "number").wants(2), NONE);
        Check.due("the other one dies", Check.with(THREE + "dies 1 2;", "number").wants(1), 0);
        Check.due("the eldest of an empty ROW", Check.with("man 1;man 2;").wants(1), 0);
        Check.due("not the eldest", Check.with("man 1;man 2;").wants(0), NONE);
        Check.due("the ROW empty by a death", Check.with(THREE + "dies 1 0;", "0").wants(1), 0);
        Check.begin("39: above the greatest number it wraps");
        Check.due("he is level, and below by 1", Check.with(THREE, LEAST + " - 1").wants(1), NONE);
    }

    // ---- promises 40 to 47

    private static void stays() {
        Check.begin("40: 0: he does not sit");
        ContraryChairs x = Check.with("chairs 2;" + Check.men(5) + "seat 0;seat 1;dies 1 2;", "number");
        x.years(1);
        Check.dueAll("who left, is dead, waits", new int[] {x.stays(0), x.stays(2), x.stays(3)}, 0, 0, 0);
        Check.begin("40: behind how many YEARS from now");
        Check.dueAll("one, and for good", new int[] {x.stays(1), x.stays(4)}, 1, NONE);
        x = Check.with("man 1;seat 0;dies 60 0;");
        Check.due("60", x.stays(0), 60);
        x.years(59);
        Check.due("1", x.stays(0), 1);
        Check.begin("40: NONE: he sits behind all 60");
        x = Check.with("chairs 2;" + Check.men(3) + "seat 0;seat 1;", "year - 60");
        Check.dueAll("he leaves in the 61st, the other one never", new int[] {x.stays(0), x.stays(1)}, NONE, NONE);
        x.years(1);
        Check.dueAll("in the 60th", new int[] {x.stays(0), x.stays(1)}, 60, NONE);
    }

    private static void doomed() {
        Check.begin("41: who would LEAVE, as bits");
        ContraryChairs x = Check.with(Check.bench("010000000000"));
        Check.due("ten", x.doomed(1), 4092);
        Check.dueAll("first, next but one, last", new int[] {x.doomed(0), x.doomed(2), x.doomed(11)}, 0, 0, 0);
        x = Check.with(Check.times(15, "man 1;") + "man 1;seat 14;seat 0;seat 15;");
        Check.due("bit 15", x.doomed(0), 32768);
        Check.due("bit 0", Check.with("question 2;man 1 0;man 1 1;man 1 0;seat 2;seat 1;seat 0;").doomed(1), 1);
        Check.begin("41: (0 also, if he does not sit)");
        x = Check.with("chairs 3;question 2;man 1 0;man 1 1;man 1 0;man 1 1;seat 1;seat 0;seat 3;");
        Check.dueAll("0 sits between 1 and 3", new int[] {x.doomed(0), x.doomed(2)}, 8, 0);
        x.die(0);
        Check.dueAll("who is dead, who left", new int[] {x.doomed(0), x.doomed(3)}, 0, 0);
    }

    private static void seams() {
        Check.begin("42: none");
        Check.dueAll("nobody, one, two unlike", new int[] {new ContraryChairs().seams(),
            Check.with(Check.bench("0")).seams(), Check.with(Check.bench("01")).seams()}, 0, 0, 0);
        Check.begin("42: as bits of CHAIRS: all but the first");
        Check.due("a full ROW", Check.with(Check.bench("000000000000")).seams(), 4094);
        Check.due("the last CHAIR", Check.with(Check.bench("010101010100")).seams(), 2048);
        Check.due("the second CHAIR", Check.with(Check.bench("001")).seams(), 2);
        Check.due("of CHAIRS, not of MEN", Check.with("chairs 2;" + Check.men(9) + "seat 8;seat 7;").seams(), 2);
        Check.due("not every second one", Check.with(Check.bench("0101")).seams(), 0);
    }

    private static int[] pair(ContraryChairs x) {
        return new int[] {x.pair(0), x.pair(1), x.pair(2)};
    }

    private static void pair() {
        Check.begin("44: NONE: fewer than two are alive");
        Check.dueAll("nobody", pair(new ContraryChairs()), NONE, NONE, NONE);
        Check.dueAll("one", pair(Check.with("man 1;")), NONE, NONE, NONE);
        ContraryChairs x = Check.with(Check.men(16));
        for (int man = 0; man < 14; man++) {
            x.die(man);
        }
        Check.dueAll("the last two", pair(x), 14, 15, 0);
        x.die(15);
        Check.dueAll("one is left", pair(x), NONE, NONE, NONE);
        Check.begin("44: of alike pairs the first");
        Check.dueAll("all alike", pair(Check.with(Check.men(16))), 0, 1, 0);
        x = Check.with("question 2;man 1 0;man 1 0;man 1 1;man 1 1;");
        Check.dueAll("0 and 2", pair(x), 0, 2, 1);
        Check.begin("44: differ most: in all six");
        x = Check.with(Check.times(6, "question 3;") + "man 1 0 0 0 0 0 0;man 1 1 1 1 1 1 0;man 1 0 0 0 0 0 1;");
        Check.dueAll("1 and 2", pair(x), 1, 2, 6);
    }

    private static int quorumOf(String sides) {
        return Check.with(Check.bench(sides)).quorum(0);
    }

    private static void quorum() {
        Check.begin("45: 0: nobody sits");
        Check.due("nobody", quorumOf(""), 0);
        Check.begin("45: the fewest from the first CHAIR on");
        Check.dueAll("one", new int[] {quorumOf("0"), quorumOf("2"), quorumOf("01"), quorumOf("222222222222")}, 1, 1, 1, 1);
        Check.dueAll("two", new int[] {quorumOf("10"), quorumOf("100"), quorumOf("201")}, 2, 2, 2);
        Check.dueAll("all", new int[] {quorumOf("111111000000"), quorumOf("011"), quorumOf("0122")}, 12, 3, 4);
        Check.begin("45: whose VOTE stays");
        Check.dueAll("lost once more", new int[] {quorumOf("101"), quorumOf("01100"), quorumOf("00111100")}, 3, 4, 8);
    }

    private static void kin() {
        Check.begin("46: no two believe just the same");
        Check.due("nobody", new ContraryChairs().kin(), 0);
        Check.due("one", Check.with(Check.bench("0")).kin(), 1);
        Check.due("twelve alike", Check.with(Check.bench("111111111111")).kin(), 1);
        Check.due("without QUESTIONS", Check.with(Check.men(3) + Check.seats(3)).kin(), 1);
        Check.due("each row of SIDES once", Check.with(Check.bench("0120120120")).kin(), 3);
        StringBuilder s = new StringBuilder("question 3;question 2;question 2;chairs 12;");
        for (int i = 0; i < 12; i++) {
            s.append("man 1 ").append(i % 3).append(' ').append(i / 3 % 2).append(' ').append(i / 6).append(';');
        }
        Check.due("twelve unlike", Check.with(s + Check.seats(12)).kin(), 12);
    }

    private static void heir() {
        Check.begin("47: NONE: he does not sit");
        ContraryChairs x = Check.with("chairs 2;" + Check.men(5) + "seat 0;seat 1;dies 1 2;", "number");
        x.years(1);
        Check.dueAll("who left, is dead, waits", new int[] {x.heir(0), x.heir(2), x.heir(3)}, NONE, NONE, NONE);
        Check.dueAll("who sits", new int[] {x.heir(1), x.heir(4)}, 3, 3);
        Check.begin("47: or nobody is taken in");
        Check.due("nobody waits", Check.with("man 1;seat 0;").heir(0), NONE);
        Check.due("who waits is to die", Check.with(TWO + "dies 1 1;").heir(0), NONE);
        Check.due("always void", Check.with(Check.men(3) + "seat 0;seat 1;", "0").heir(1), NONE);
        Check.begin("47: of the next 60 YEARS");
        Check.due("this one: the eldest comes to an empty ROW", Check.with("man 1;man 2;man 3;seat 2;").heir(2), 1);
        Check.due("the 60th", Check.with(Check.men(3) + "seat 0;seat 1;", "year - 59").heir(1), 2);
        x = Check.with(Check.men(3) + "seat 0;seat 1;", "year - 60");
        Check.due("the 61st", x.heir(1), NONE);
        x.years(1);
        Check.due("the 60th from year 2 on", x.heir(1), 2);
        Check.begin("47: were he to die now: who LEAVES by it is not taken in");
        Check.due("2 has left", Check.with(Check.bench("010") + "man 1 0;", "1").heir(1), 3);
    }

    // ---- promises 48 and 49

    private static final BigInteger WRAP = BigInteger.ONE.shiftLeft(32);

    /** The draws by 16 of a seed, by numbers that need no wrapping of their own. */
    private static int[] drawn(int seed, int many) {
        BigInteger s = BigInteger.valueOf(seed).mod(WRAP);
        int[] draws = new int[many];
        for (int i = 0; i < many; i++) {
            s = s.multiply(BigInteger.valueOf(1103515245)).add(BigInteger.valueOf(12345)).mod(WRAP);
            draws[i] = s.shiftRight(16).mod(BigInteger.valueOf(32768)).mod(BigInteger.valueOf(16)).intValue();
        }
        return draws;
    }

    private static void draws() {
        ContraryChairs x = Check.with("man 1;seat 0;");
        Check.begin("48: DRAW by 16 below Q: a DRAW of 0, of 15");
        Check.dueAll("seed 0 draws 0", new int[] {x.fates(0, 0, 1, 2), x.fates(0, 1, 1, 2)}, 0, 1);
        int high = 0;
        while (drawn(high, 1)[0] != 15) {
            high++;
        }
        Check.dueAll("seed " + high + " draws 15", new int[] {x.fates(high, 15, 1, 2), x.fates(high, 16, 1, 2)}, 0, 1);
        Check.begin("48: the SEED (32 bits): it wraps");
        int[] seeds = {Integer.MIN_VALUE, Integer.MIN_VALUE + 1, -65536, -2, -1, 0, 1, 65535, 65536, Integer.MAX_VALUE - 1,
            Integer.MAX_VALUE, 1 << 30, -(1 << 30)};
        for (int seed : seeds) {
            int draw = drawn(seed, 1)[0];
            Check.dueAll("seed " + seed, new int[] {x.fates(seed, draw, 1, 2), x.fates(seed, draw + 1, 1, 2)}, 0, 1);
        }
        Check.begin("48: for each who sits, from the first CHAIR on; YEAR by YEAR");
        for (int seed = -8; seed < 30; seed++) {
            chairsAndYears(seed * 77777777);
        }
    }

    /** Three who are all unlike, so that nobody LEAVES; nobody waits. */
    private static void chairsAndYears(int seed) {
        ContraryChairs x = Check.with(Check.bench("012"));
        int[] draws = drawn(seed, 9);
        int at = 0;
        List<Integer> sit = new ArrayList<>(List.of(0, 1, 2));
        for (int year = 1; year <= 3; year++) {
            List<Integer> left = new ArrayList<>();
            for (int man : sit) {
                if (draws[at++] >= 5) {
                    left.add(man);
                }
            }
            sit = left;
            for (int man = 0; man < 3; man++) {
                Check.due("man " + man + " by seed " + seed + " in " + year, x.span(seed, 1, 5, year, 2, man),
                    sit.contains(man) ? 1 : 0);
            }
            Check.dueAll("seed " + seed + " in " + year, fates(x, seed, 5, year), sit.size(), year, 3 - sit.size(),
                sit.isEmpty() ? NONE : sit.get(sit.size() - 1));
        }
    }

    private static int[] fates(ContraryChairs x, int seed, int q, int n) {
        return new int[] {x.fates(seed, q, n, 0), x.fates(seed, q, n, 1), x.fates(seed, q, n, 2), x.fates(seed, q, n, 3)};
    }

    private static void fates() {
        Check.begin("48: Q (0 to 16): none is to die, all are");
        ContraryChairs x = Check.with(Check.bench("010101010101"));
        Check.dueAll("none", fates(x, 1, 0, 40), 12, 40, 0, 11);
        Check.dueAll("all", fates(x, 1, 16, 1), 0, 1, 12, NONE);
        Check.begin("48: n YEARS (1 to 40)");
        ContraryChairs y = Check.with(TWO, "year / 40");
        Check.dueAll("39", fates(y, 1, 0, 39), 1, 39, 0, 0);
        Check.dueAll("40", fates(y, 1, 0, 40), 2, 39, 0, 1);
        Check.dueAll("without men", fates(new ContraryChairs(), 1, 16, 40), 0, 40, 0, NONE);
        Check.begin("48: between (a) and (b) of each YEAR");
        y = Check.with(TWO + "dies 1 0;");
        Check.dueAll("1 comes behind all deaths", fates(y, 1, 16, 1), 1, 0, 1, 1);
        Check.dueAll("and dies a YEAR later", fates(y, 1, 16, 2), 0, 1, 2, NONE);
        Check.dueAll("told deaths alone", fates(y, 1, 0, 1), 1, 0, 1, 1);
        Check.dueAll("who died by (a) draws nothing", fates(Check.with(Check.bench("0012") + "dies 1 0;"),
            seedFor(true, false, true), 8, 1), 1, 1, 3, 2);
        Check.begin("48: VOID YEARS and deaths of these YEARS");
        y = Check.with(SALON);
        y.years(3);
        Check.dueAll("from year 4 on", fates(y, 1, 0, 3), 3, 2, 0, 1);
        Check.begin("48: behind YEAR 200");
        Check.dueAll("40 void ones", fates(old(new ContraryChairs()), 1, 0, 40), 0, 40, 0, NONE);
    }

    /** A seed by which of three who sit just these die by Q 8. */
    private static int seedFor(boolean... die) {
        for (int seed = 0; seed < 100000; seed++) {
            int[] draws = drawn(seed, 3);
            if (draws[0] < 8 == die[0] && draws[1] < 8 == die[1] && draws[2] < 8 == die[2]) {
                return seed;
            }
        }
        Check.wrong("no seed");
        return 0;
    }

    private static void deathsBySeeds() {
        ContraryChairs x = Check.with(Check.bench("010"));
        Check.begin("48: as by told deaths: who sat on both sides and agree");
        Check.dueAll("1 dies, 2 leaves", fates(x, seedFor(false, true, false), 8, 1), 1, 1, 1, 0);
        Check.begin("48: one by one in that order");
        Check.dueAll("0 dies, then 1: 2 stays", fates(x, seedFor(true, true, false), 8, 1), 1, 1, 2, 2);
        Check.begin("48: (also who LEFT meanwhile)");
        Check.dueAll("1 dies, 2 leaves and dies", fates(x, seedFor(false, true, true), 8, 1), 1, 1, 2, 0);
        Check.begin("48: all die, all leave none");
        Check.dueAll("all", fates(x, seedFor(true, true, true), 8, 1), 0, 1, 3, NONE);
        Check.dueAll("none", fates(x, seedFor(false, false, false), 8, 1), 3, 1, 0, 2);
    }

    private static void span() {
        Check.begin("49: of so many SEEDS (1 to 20; seed, seed and 1, ..)");
        ContraryChairs x = Check.with("man 1;seat 0;");
        for (int seed : new int[] {0, -10, Integer.MAX_VALUE, Integer.MAX_VALUE - 9, Integer.MIN_VALUE}) {
            for (int many : new int[] {1, 2, 19, 20}) {
                int sits = 0;
                for (int i = 0; i < many; i++) {
                    sits += drawn(seed + i, 1)[0] < 6 ? 0 : 1;
                }
                Check.dueAll(many + " from " + seed + " on", new int[] {x.span(seed, many, 6, 1, 0, 0),
                    x.span(seed, many, 6, 1, 1, 0), x.span(seed, many, 6, 1, 2, 0)},
                    sits == many ? 1 : 0, sits > 0 ? 1 : 0, sits);
            }
        }
        Check.begin("49: the fewest, the most: nobody, twelve");
        ContraryChairs full = Check.with(Check.bench("010101010101"));
        Check.dueAll("none dies", new int[] {full.span(1, 20, 0, 40, 0, 0), full.span(1, 20, 0, 40, 1, 0),
            full.span(1, 20, 0, 40, 2, 11)}, 12, 12, 20);
        Check.dueAll("all die", new int[] {full.span(1, 20, 16, 40, 0, 0), full.span(1, 20, 16, 40, 1, 0),
            full.span(1, 20, 16, 40, 2, 11)}, 0, 0, 0);
        Check.begin("49: a MAN sits: not if he waits, left or is dead");
        ContraryChairs y = Check.with("chairs 2;" + Check.men(5) + "seat 0;seat 1;dies 1 2;", "(4 - year) * number");
        Check.dueAll("by year 3", new int[] {y.span(1, 3, 0, 1, 2, 0), y.span(1, 3, 0, 1, 2, 1), y.span(1, 3, 0, 1, 2, 2),
            y.span(1, 3, 0, 1, 2, 3), y.span(1, 3, 0, 1, 2, 4)}, 0, 3, 0, 0, 3);
        Check.begin("49: no such MAN, whatever is asked");
        for (int what = 0; what <= 2; what++) {
            int asked = what;
            Check.unfit("the man behind the last, what " + what, () -> y.span(1, 1, 0, 1, asked, 5));
            Check.unfit("without men, what " + what, () -> new ContraryChairs().span(1, 1, 0, 1, asked, 0));
        }
    }

    // ---- promises 50 to 53

    private static void images() {
        Check.begin("50: how many there are; -1: there are 3");
        ContraryChairs x = Check.with(SALON);
        Check.dueAll("three", new int[] {x.image(), x.image(), x.image(), x.count(0)}, 1, 2, 3, 3);
        x.years(2);
        Check.dueAll("no more", new int[] {x.image(), x.image(), x.count(0)}, -1, -1, 3);
        Check.due("years to undo stay", x.count(2), 2);
        Check.begin("51: the latest IMAGE, which is gone: how many are left");
        Check.dueAll("two left", new int[] {x.restore(), x.told(3), x.count(0)}, 2, 1, 2);
        x.years(4);
        Check.due("room again", x.image(), 3);
        x.years(1);
        Check.dueAll("the latest", new int[] {x.restore(), x.told(3)}, 2, 5);
        Check.dueAll("all", new int[] {x.restore(), x.restore(), x.told(3)}, 1, 0, 1);
        Check.begin("51: -1: there is none");
        x.years(2);
        int[] ahead = Check.state(x);
        Check.dueAll("none", new int[] {x.restore(), x.restore()}, -1, -1);
        Check.dueAll("nothing changes", Check.state(x), ahead);
        Check.due("a new object's", new ContraryChairs().restore(), -1);

        Check.begin("50 and 51: all is as in the IMAGE");
        x = Check.with(SALON, "differs * 10 + waits");
        x.years(2);
        x.praise(1, 4);
        x.image();
        ahead = Check.state(x);
        x.image();
        x.years(3);
        x.die(0);
        x.die(2);
        x.praise(1, 9);
        x.years(60);
        Check.due("one left", x.restore(), 1);
        Check.dueAll("as it was", Check.state(x), ahead);
        Check.begin("50: praise told aside is in the IMAGE, and how many there are");
        Check.due("praise", x.score(1), 10 + 2 + 4);
        for (int i = 0; i < 11; i++) {
            Check.due("room for 11", x.praise(1, 1), 1);
        }
        Check.due("no more", x.praise(1, 1), 0);
        x.restore();
        Check.due("room again", x.praise(1, 1), 1);

        Check.begin("50: but the TAPE, the latest FAULT, the LAW, the BOOK");
        x = Check.with(SALON);
        Check.law(x, "3");
        Check.book(x, "1 1;");
        x.image();
        Check.law(x, "4");
        Check.book(x, "1 1;2 2;");
        Check.academy(x, "man 1;x");
        Check.feed(x, "x");
        x.restore();
        Check.dueAll("all four stay", new int[] {x.count(1), x.fault(), x.score(1), x.told(8)}, 20, 6, 4, 2);
    }

    private static void counts() {
        Check.begin("52: how many calls were refused; NONE for others");
        ContraryChairs x = Check.with(SALON);
        Check.dueAll("none", new int[] {x.status(0), x.status(1)}, 0, 0);
        Check.dueAll("others", new int[] {x.status(2), x.status(-1), x.status(Integer.MIN_VALUE),
            x.status(Integer.MAX_VALUE)}, NONE, NONE, NONE, NONE);
        Check.due("asking for others is not refused", x.status(1), 0);
        Check.begin("52: what is answered by NONE, -1 or 0 is not refused");
        for (int i = 0; i < 31; i++) {
            x.feed(0, 0, 0, 0, 0);
        }
        x.restore();
        x.taken(-9);
        x.taken(999);
        x.praise(0, 1);
        x.count(9);
        x.academy(7);
        x.undo(60);
        Check.dueAll("none still", new int[] {x.status(0), x.status(1)}, 0, 0);
        Check.begin("52: No IMAGE keeps it");
        ContraryChairs y = Check.with(SALON);
        y.image();
        Check.unknown("man 5", () -> y.man(5, 0));
        Check.unfit("what 5", () -> y.man(0, 5));
        Check.unfit("what 9", () -> y.told(9));
        y.restore();
        Check.dueAll("one and two", new int[] {y.status(0), y.status(1)}, 1, 2);
        Check.academy(y, "");
        Check.dueAll("still", new int[] {y.status(0), y.status(1)}, 1, 2);

        Check.begin("53: NONE for others");
        Check.dueAll("others", new int[] {y.count(3), y.count(-1), y.count(Integer.MIN_VALUE), y.count(Integer.MAX_VALUE)},
            NONE, NONE, NONE, NONE);
        Check.begin("53: none, and as many as there can be");
        Check.dueAll("none", new int[] {y.count(0), y.count(1), y.count(2)}, 0, 0, 0);
        for (int i = 0; i < 31; i++) {
            y.feed(0, 0, 0, 0, 0);
            y.image();
        }
        old(y);
        Check.dueAll("3, 600, 199", new int[] {y.count(0), y.count(1), y.count(2)}, 3, 600, 199);
    }
}
