/**
 * The edges that the document's sentences on the row and its years name, each with a test of its own that bears its
 * words: promises 7 to 20, and the terms of WAITING, YEAR, deaths and CHAIRS.
 */
public final class YearEdges {
    private static final int NONE = ContraryChairs.NONE;
    private static final String SALON = "question 2;question 3;chairs 3;man 40 0 0;man 30 1 1;man 50 1 2;"
        + "man 20 0 1;man 60 0 0;seat 0;praise 1 2 5;dies 3 4;";
    /** 2 to the 31st, which wraps to the least number that there is. */
    private static final String LEAST = "512*512*512*16";

    private YearEdges() {
    }

    public static void main(String[] args) {
        waiting();
        deaths();
        neighbours();
        deathsInOrder();
        emptyRow();
        greatest();
        fullRow();
        told();
        man();
        beliefs();
        score();
        next();
        years();
        undo();
        undoEnds();
        taken();
        sums();
        die();
        praise();
        Check.finish();
    }

    private static int[] states(ContraryChairs x) {
        int[] states = new int[x.told(1)];
        for (int man = 0; man < states.length; man++) {
            states[man] = x.man(man, 1);
        }
        return states;
    }

    private static void waiting() {
        Check.begin("WAITING are all who neither sit nor are dead, nor have left");
        ContraryChairs x = Check.with("chairs 2;" + Check.men(5) + "seat 0;seat 1;dies 1 4;", "number");
        Check.due("three", x.told(5), 3);
        x.years(1);
        Check.dueAll("0 left, 1 and 3 sit, 4 is dead", states(x), 2, 1, 0, 1, 3);
        Check.due("one", x.told(5), 1);

        Check.due("the first MAN too", Check.with("man 1;man 1;seat 1;").told(5), 1);
        Check.due("all sixteen", Check.with(Check.men(16)).told(5), 16);

        Check.begin("LEAVES (for good)");
        x.years(1);
        Check.dueAll("the row", Check.row(x), 3, 2);
        x.years(5);
        Check.dueAll("the row still", Check.row(x), 3, 2);
        Check.dueAll("who left is not taken in again", states(x), 2, 2, 1, 1, 3);
        Check.dueAll("void years", Check.sums(x), 5, 2, 2, 1);
        Check.due("none waits", x.told(5), 0);
    }

    private static void deaths() {
        Check.begin("Deaths of MEN who are not dead");
        ContraryChairs x = Check.with(Check.men(3) + "seat 0;dies 1 1;dies 1 1;dies 2 1;dies 2 0;", "1");
        x.years(1);
        Check.dueAll("once", new int[] {x.sums(3), x.told(4), x.man(1, 1)}, 1, 2, 3);
        x.years(1);
        Check.dueAll("and another one", new int[] {x.sums(3), x.told(4)}, 2, 1);
        Check.due("all are told", x.told(6), 4);

        Check.begin("Deaths of it: of this YEAR alone, the first and the 60th");
        x = Check.with(Check.men(2) + "seat 0;seat 1;dies 60 1;dies 1 0;");
        x.years(1);
        Check.dueAll("in year 1", states(x), 3, 1);
        x.years(58);
        Check.dueAll("by year 60", states(x), 3, 1);
        x.years(1);
        Check.dueAll("in year 60", states(x), 3, 3);

        Check.begin("a dead one is never taken in");
        x = Check.with("man 1;man 1;man 9;seat 0;dies 1 2;", "number");
        x.years(1);
        Check.dueAll("not the greatest", Check.row(x), 0, 1);
        x = Check.with("man 1;man 9;dies 1 1;");
        x.years(1);
        Check.dueAll("not the eldest", Check.row(x), 0);
        x.die(0);
        x.years(2);
        Check.dueAll("who sat is dead too", Check.row(x));

        Check.begin("deaths of who waits, who sits, who left");
        x = Check.with("chairs 2;" + Check.men(4) + "seat 0;seat 1;dies 2 0;dies 2 1;dies 2 3;", "3 - number");
        x.years(1);
        Check.dueAll("0 left", states(x), 2, 1, 1, 0);
        x.years(1);
        Check.dueAll("all three died", states(x), 3, 3, 1, 3);
        Check.dueAll("and one had left", Check.sums(x), 1, 1, 1, 3);
    }

    private static void dies(String sides, int man, int gone, int... row) {
        ContraryChairs x = Check.with(Check.bench(sides));
        Check.due("gone of " + sides + " by " + man, x.die(man), gone);
        Check.dueAll("left of " + sides + " by " + man, Check.row(x), row);
        Check.due("dead of " + sides, x.sums(3), 1);
        Check.due("who left of " + sides, x.sums(2), gone - 1);
    }

    private static void neighbours() {
        Check.begin("those who sat next to him on both sides: the first of the ROW");
        dies("010", 0, 1, 1, 2);
        dies("100", 0, 1, 1, 2);
        Check.begin("on both sides: the last of the ROW");
        dies("010", 2, 1, 0, 1);
        dies("001", 2, 1, 0, 1);
        Check.begin("on both sides: the only one");
        dies("0", 0, 1);
        Check.begin("on both sides: one of two");
        dies("00", 0, 1, 1);
        dies("00", 1, 1, 0);

        Check.begin("then AGREE: the later one of them LEAVES");
        dies("010", 1, 2, 0);
        dies("000", 1, 2, 0);
        dies("10122", 2, 1, 0, 1, 3, 4);
        dies("1010", 2, 2, 0, 1);
        dies("001", 1, 1, 0, 2);

        Check.begin("and so on with those who are next to each other now");
        dies("010010", 1, 3, 0, 4, 5);
        dies("010200", 1, 2, 0, 3, 4, 5);
        dies("0100", 1, 3, 0);
        Check.begin("and so on: to the end of a full ROW");
        dies("010000000000", 1, 11, 0);
        Check.begin("not with those who sit ahead");
        dies("0010", 2, 2, 0, 1);
        dies("110112", 2, 3, 0, 1, 5);
        Check.begin("not with those who sit farther behind");
        dies("0102211", 1, 2, 0, 3, 4, 5, 6);

        Check.begin("AGREE in all QUESTIONS");
        ContraryChairs two = Check.with("question 2;question 2;man 1 0 0;man 1 1 1;man 1 0 1;" + Check.seats(3));
        Check.due("in one of two", two.die(1), 1);
        ContraryChairs last = Check.with(Check.times(6, "question 2;") + "man 1 0 0 0 0 0 0;man 1 0 0 0 0 0 0;"
            + "man 1 0 0 0 0 0 1;" + Check.seats(3));
        Check.due("in five of six", last.die(1), 1);
        Check.due("without questions all agree", Check.with(Check.men(4) + Check.seats(4)).die(1), 3);
    }

    private static void deathsInOrder() {
        String three = Check.bench("010") + "man 5 2;";
        Check.begin("deaths as told: in their order");
        ContraryChairs x = Check.with(three + "dies 1 1;dies 1 0;");
        x.years(1);
        Check.dueAll("2 leaves, 0 dies, and 3 comes", Check.row(x), 3);
        x = Check.with(three + "dies 1 0;dies 1 1;");
        x.years(1);
        Check.dueAll("2 stays", Check.row(x), 2, 3);

        Check.begin("deaths of a YEAR: the later one LEAVES there too");
        x = Check.with(three + "dies 1 1;");
        x.years(1);
        Check.dueAll("the row", Check.row(x), 0, 3);
        Check.dueAll("sums", Check.sums(x), 0, 1, 1, 1);
    }

    private static void emptyRow() {
        Check.begin("If the ROW is empty, whoever is eldest (of these the first)");
        Check.due("of 5, 9 and 9", Check.with("man 5;man 9;man 9;").next(), 1);
        Check.due("of 9, 9 and 5", Check.with("man 9;man 9;man 5;").next(), 0);
        Check.due("of 98 and 99", Check.with("man 98;man 99;").next(), 1);
        Check.due("of age 0", Check.with("man 0;").next(), 0);
        Check.due("of ages 0", Check.with("man 0;man 0;").next(), 0);
        Check.begin("If the ROW is empty: whatever the SCORE");
        Check.due("below 0", Check.with("man 1;man 1;", "0-5").next(), 0);
        Check.due("praised", Check.with("man 1;man 1;praise 1 1 99;").next(), 0);

        Check.begin("If the ROW is empty by the YEAR's own deaths");
        ContraryChairs x = Check.with("man 1;man 2;man 3;seat 2;dies 1 2;", "2 - number");
        x.years(1);
        Check.dueAll("the eldest, not the greatest", Check.row(x), 1);
        Check.begin("If the ROW is empty, and nobody is WAITING: VOID");
        Check.due("nobody at all", new ContraryChairs().next(), NONE);
        Check.due("nobody left", Check.with("man 1;seat 0;dies 1 0;").next(), NONE);
        Check.due("he dies as well", Check.with("man 1;dies 1 0;").next(), NONE);
    }

    private static void taken(String text, String law, int who) {
        ContraryChairs x = Check.with(text, law);
        Check.due(law + " by " + text, x.next(), who);
        x.years(1);
        Check.due("taken in by " + law, x.taken(1), who);
        Check.due("void by " + law, x.sums(0), who == NONE ? 1 : 0);
    }

    private static void greatest() {
        Check.begin("the greatest SCORE, if it is above 0");
        taken("man 1;man 1;seat 0;", "1", 1);
        taken("man 1;man 1;seat 0;", "0", NONE);
        taken("man 1;man 1;seat 0;", "0-1", NONE);
        taken(Check.men(3) + "seat 0;", "number - 1", 2);
        taken(Check.men(3) + "seat 0;", "number - 2", NONE);
        taken(Check.men(3) + "seat 0;", "2 - number", 1);
        Check.begin("above 0: the greatest and the least number that there is");
        taken("man 1;man 1;seat 0;", LEAST + "-1", 1);
        taken("man 1;man 1;seat 0;", LEAST, NONE);
        taken(Check.men(3) + "seat 0;", "most[2-number,0]*(" + LEAST + ")", NONE);

        Check.begin("and no other one has as much");
        taken(Check.men(3) + "seat 0;", "5", NONE);
        taken(Check.men(4) + "seat 0;", "least[number,2]", NONE);
        taken(Check.men(4) + "seat 0;", "9 - most[number,2]", NONE);
        Check.begin("others may have as much as each other");
        taken(Check.men(4) + "seat 0;", "most[number,2]", 3);
        taken(Check.men(4) + "seat 0;", "most[3-number,1]", 1);
        Check.begin("of all WAITING: who sits does not count");
        taken(Check.men(3) + "seat 2;", "number + 1", 1);
        taken(Check.men(3) + "seat 1;seat 2;", "5", 0);
        Check.begin("in all other cases VOID: nobody is WAITING");
        taken(Check.men(2) + "seat 0;seat 1;", "5", NONE);
    }

    private static void fullRow() {
        Check.begin("If more sit than there are CHAIRS, the first of the ROW LEAVES");
        ContraryChairs x = Check.with("chairs 2;" + Check.men(3) + "seat 1;", "number");
        x.years(1);
        Check.dueAll("as many as there are", Check.row(x), 1, 2);
        x = Check.with("chairs 2;" + Check.men(3) + "seat 1;seat 0;", "number");
        x.years(1);
        Check.dueAll("one more", Check.row(x), 0, 2);
        Check.dueAll("one left", new int[] {x.sums(2), x.man(1, 1)}, 1, 2);
        x = Check.with("chairs 12;" + Check.men(13) + Check.seats(12), "1");
        x.years(1);
        Check.dueAll("of twelve", Check.row(x), 1, 2, 3, 4, 5, 6, 7, 8, 9, 10, 11, 12);
        x = Check.with("chairs 12;" + Check.men(13) + Check.seats(11), "number - 11");
        x.years(1);
        Check.dueAll("eleven and one", Check.row(x), 0, 1, 2, 3, 4, 5, 6, 7, 8, 9, 10, 12);
        x = Check.with(Check.men(7) + Check.seats(6), "1");
        x.years(1);
        Check.dueAll("of six without", Check.row(x), 1, 2, 3, 4, 5, 6);
        Check.begin("in a VOID YEAR none LEAVES");
        x = Check.with("chairs 2;" + Check.men(3) + "seat 1;seat 0;", "0");
        x.years(9);
        Check.dueAll("two stay", Check.row(x), 1, 0);
        Check.begin("by a death in a full ROW there is room");
        x = Check.with("chairs 2;question 2;man 1 0;man 1 1;man 1 0;seat 0;seat 1;dies 1 1;", "1");
        x.years(1);
        Check.dueAll("none leaves", Check.row(x), 0, 2);
    }

    private static void told() {
        Check.begin("7: an empty ACADEMY");
        ContraryChairs x = new ContraryChairs();
        int[] told = new int[9];
        for (int what = 0; what <= 8; what++) {
            told[what] = x.told(what);
        }
        Check.dueAll("all", told, 0, 0, 6, 1, 0, 0, 0, 0, 0);
        Check.begin("7: a full ACADEMY");
        x = Check.with("question 2;question 2;chairs 12;" + Check.times(16, "man1 0 0;") + Check.seats(12)
            + Check.times(12, "dies60 0;") + Check.times(11, "praise60 0 1;"));
        Check.book(x, Check.times(12, "1 void;"));
        for (int what = 0; what <= 8; what++) {
            told[what] = x.told(what);
        }
        Check.dueAll("all", told, 2, 16, 12, 1, 12, 4, 12, 11, 12);
        Check.begin("7: the YEAR is 200 at most");
        for (int i = 0; i < 5; i++) {
            x.years(60);
        }
        Check.due("the year", x.told(3), 200);
    }

    private static void man() {
        Check.begin("8: his CHAIR (NONE)");
        ContraryChairs x = Check.with("chairs 12;" + Check.men(13) + Check.seats(12));
        Check.dueAll("first, last, none", new int[] {x.man(0, 2), x.man(11, 2), x.man(12, 2)}, 0, 11, NONE);
        x.die(0);
        Check.due("of one who died", x.man(0, 2), NONE);
        Check.due("of the first then", x.man(1, 2), 0);
        Check.begin("8: YEARS he waited: none as told, none in the YEAR in which he is taken in");
        x = Check.with("man 1;man 1;man 1;man 1;seat 0;dies 2 3;", "(3 - number) * (year - 1)");
        x.years(3);
        Check.dueAll("as told", new int[] {x.man(0, 3), x.man(0, 4)}, 0, 0);
        Check.dueAll("1 in year 2", new int[] {x.man(1, 3), x.man(1, 4)}, 1, 2);
        Check.dueAll("2 in year 3", new int[] {x.man(2, 3), x.man(2, 4)}, 2, 3);
        Check.dueAll("who died in year 2", new int[] {x.man(3, 3), x.man(3, 4)}, 1, NONE);
        x = Check.with(Check.men(16) + "seat 7;", "0");
        x.years(9);
        Check.dueAll("the first and the last MAN", new int[] {x.man(0, 3), x.man(7, 3), x.man(15, 3)}, 9, 0, 9);
        Check.begin("8: the YEAR in which he was taken in (0: told so; NONE: never)");
        x = Check.with("chairs 2;" + Check.men(4) + "seat 0;seat 1;", "number");
        Check.dueAll("never by now", new int[] {x.man(0, 4), x.man(3, 4)}, 0, NONE);
        x.years(1);
        x.die(3);
        Check.dueAll("also who left, who died", new int[] {x.man(0, 4), x.man(3, 4), x.man(2, 4)}, 0, 1, NONE);
        x = Check.with("man 1;man 1;seat 0;", "year / 199");
        for (int i = 0; i < 4; i++) {
            x.years(60);
        }
        Check.dueAll("in year 199", new int[] {x.man(1, 4), x.man(1, 3)}, 199, 198);
        Check.begin("8: his AGE now");
        x = Check.with("man 0;man 99;seat 0;dies 2 0;");
        Check.dueAll("in year 1", new int[] {x.man(0, 0), x.man(1, 0)}, 0, 99);
        for (int i = 0; i < 4; i++) {
            x.years(60);
        }
        Check.dueAll("in year 200", new int[] {x.man(0, 0), x.man(1, 0)}, 199, 298);
    }

    private static void beliefs() {
        Check.begin("9 and 10: the first and the last QUESTION");
        ContraryChairs x = Check.with("question 3;" + Check.times(4, "question 2;") + "question 3;"
            + Check.times(15, "man 1 0 0 0 0 0 0;") + "man 1 2 0 1 0 1 2;");
        Check.dueAll("sides", new int[] {x.sides(0), x.sides(1), x.sides(4), x.sides(5)}, 3, 2, 2, 3);
        Check.dueAll("man 15", new int[] {x.believes(15, 0), x.believes(15, 1), x.believes(15, 2), x.believes(15, 3),
            x.believes(15, 4), x.believes(15, 5)}, 2, 0, 1, 0, 1, 2);
        Check.begin("12: none, and all QUESTIONS");
        x = Check.with(Check.times(6, "question 3;") + "man 1 0 0 0 1 1 2;man 1 1 2 1 2 0 0;man 1 0 0 0 1 1 2;");
        Check.dueAll("differs", new int[] {x.differs(0, 1), x.differs(1, 0), x.differs(0, 2), x.differs(1, 1)}, 6, 6, 0, 0);
        Check.due("without questions", Check.with(Check.men(2)).differs(0, 1), 0);
        Check.begin("11: NONE: nobody");
        x = Check.with("chairs 12;" + Check.men(12) + Check.seats(12));
        Check.dueAll("full", new int[] {x.chair(0), x.chair(11)}, 0, 11);
        x.die(11);
        x.die(0);
        // Without questions the others all agree, but nobody sat on both sides of the first and the last.
        Check.dueAll("two fewer", new int[] {x.chair(0), x.chair(9), x.chair(10), x.chair(11)}, 1, 10, NONE, NONE);
        Check.dueAll("empty", new int[] {new ContraryChairs().chair(0), new ContraryChairs().chair(11)}, NONE, NONE);
    }

    private static void score() {
        Check.begin("13: the ROW is empty: 0");
        Check.due("whatever the law and praise", Check.with("man 1;praise 1 0 9;", "7").score(0), 0);
        ContraryChairs x = Check.with("man 1;man 1;seat 0;", "7");
        Check.due("not empty", x.score(1), 7);
        x.die(0);
        Check.due("empty then", x.score(1), 0);
        Check.begin("13: whether or not he is WAITING");
        x = Check.with("chairs 2;" + Check.men(5) + "seat 0;seat 1;dies 1 3;praise 2 0 3;praise 2 3 4;praise 2 4 5;",
            "number * 10");
        x.years(1);
        Check.dueAll("the row", Check.row(x), 1, 4);
        Check.dueAll("who left, sits, waits, is dead, is the LAST one", new int[] {x.score(0), x.score(1), x.score(2),
            x.score(3), x.score(4)}, 3, 10, 20, 34, 45);
        Check.begin("13: this YEAR, with praise of no other YEAR");
        x = Check.with("man 1;man 1;seat 0;praise 1 1 1;praise 2 1 20;praise 2 1 30;praise 3 1 4;", "0-100");
        Check.due("year 1", x.score(1), -99);
        x.years(1);
        Check.due("year 2, of two praises", x.score(1), -50);
        x.years(1);
        Check.due("year 3", x.score(1), -96);
        x.years(1);
        Check.due("year 4", x.score(1), -100);
        Check.begin("13: the 60th YEAR's praise");
        x = Check.with("man 1;man 1;seat 0;praise 60 1 99;", "0-100");
        x.years(59);
        Check.due("year 60", x.score(1), -1);
        Check.begin("13: against the LAST one, deaths of the YEAR not done");
        x = Check.with("question 2;man 1 0;man 1 1;man 1 1;seat 0;seat 1;dies 1 1;");
        Check.due("against 1", x.score(2), 0);
    }

    private static void next() {
        Check.begin("14: deaths of it done");
        ContraryChairs x = Check.with("question 2;man 1 0;man 1 1;man 1 1;seat 0;seat 1;dies 1 1;");
        Check.due("against 0", x.next(), 2);
        Check.due("nothing is done", x.sums(3), 0);
        Check.begin("14: NONE: it is VOID");
        Check.due("the second year", Check.with("man 1;man 1;seat 0;", "year - 1").next(), NONE);
        x = Check.with("man 1;man 1;seat 0;", "year / 200");
        for (int i = 0; i < 4; i++) {
            x.years(60);
        }
        Check.due("in year 200, though it never goes by", x.next(), 1);
    }

    private static void years() {
        Check.begin("15: n YEARS (1 to 60) go by");
        ContraryChairs x = new ContraryChairs();
        Check.due("one", x.years(1), 2);
        Check.due("sixty", x.years(60), 62);
        Check.begin("15: 200 at most: no further");
        x.years(60);
        x.years(60);
        Check.due("182", x.told(3), 182);
        Check.due("to 199", x.years(17), 199);
        Check.due("60 from 199 on", x.years(60), 200);
        Check.due("199 years were void", x.sums(0), 199);
        ContraryChairs y = Check.with("man 1;man 1;seat 0;", "0");
        for (int i = 0; i < 4; i++) {
            y.years(60);
        }
        int[] ahead = Check.state(y);
        Check.due("1 from 200 on", y.years(1), 200);
        Check.due("60 from 200 on", y.years(60), 200);
        Check.dueAll("nothing changes", Check.state(y), ahead);
        Check.due("199 years of waiting", y.man(1, 3), 199);
    }

    private static void undo() {
        Check.begin("16: n YEARS are undone: all is as it was");
        int[][] was = new int[13][];
        ContraryChairs x = Check.with(SALON);
        for (int year = 1; year <= 6; year++) {
            was[year] = Check.state(x);
            x.years(1);
        }
        for (int year = 6; year >= 1; year--) {
            ContraryChairs y = Check.with(SALON);
            y.years(6);
            Check.due("years undone", y.undo(7 - year), 7 - year);
            Check.dueAll("year " + year, Check.state(y), was[year]);
        }
        Check.begin("16: at most what there are: how many");
        x = new ContraryChairs();
        Check.due("none", x.undo(1), 0);
        Check.due("none of 60", x.undo(60), 0);
        x.years(3);
        Check.due("three of 60", x.undo(60), 3);
        Check.due("year 1", x.told(3), 1);
        x.years(3);
        Check.due("three of 3", x.undo(3), 3);
        x.years(60);
        Check.due("sixty", x.undo(60), 60);
        Check.begin("16: all 199 YEARS, by 60 a call");
        for (int i = 0; i < 4; i++) {
            x.years(60);
        }
        Check.dueAll("undone", new int[] {x.count(2), x.undo(60), x.undo(60), x.undo(60), x.undo(60), x.undo(60)},
            199, 60, 60, 60, 19, 0);
        Check.due("year 1", x.told(3), 1);
        Check.begin("16: undone YEARS may go by again");
        ContraryChairs z = Check.with(SALON);
        z.years(4);
        z.undo(2);
        z.years(2);
        Check.dueAll("the row", Check.row(z), 2, 3, 1);
        Check.due("four to undo", z.count(2), 4);
    }

    private static void undoEnds() {
        Check.begin("16: to the latest academy() at most");
        ContraryChairs x = Check.with(SALON);
        x.years(3);
        Check.academy(x, SALON);
        Check.due("none", x.undo(9), 0);
        x.years(3);
        Check.academy(x, "man");
        Check.due("one with a fault is none", x.undo(9), 3);

        Check.begin("16: to the latest law() that was told");
        ContraryChairs l = Check.with(SALON);
        l.years(2);
        Check.law(l, "1");
        l.years(1);
        Check.law(l, "1+");
        Check.unfit("refused", () -> l.law(1));
        l.years(1);
        Check.due("two", l.undo(9), 2);
        Check.due("year 3", l.told(3), 3);
        Check.due("by the law as told", l.score(1), 1);

        Check.begin("16: to the latest die()");
        x = Check.with(SALON);
        x.years(2);
        x.die(0);
        Check.due("none behind it", x.undo(9), 0);
        x.years(1);
        Check.dueAll("one, and he is dead", new int[] {x.undo(9), x.man(0, 1), x.told(3)}, 1, 3, 3);

        Check.begin("16: to the latest praise()");
        x = Check.with(SALON);
        x.years(1);
        x.praise(1, 50);
        Check.due("none behind it", x.undo(9), 0);
        x.years(2);
        Check.dueAll("two, and praise stands", new int[] {x.undo(9), x.score(1), x.next()}, 2, 11 + 50, 1);

        Check.begin("16: to the latest restore()");
        x = Check.with(SALON);
        x.years(2);
        x.image();
        Check.due("an image ends nothing", x.count(2), 2);
        x.years(2);
        x.restore();
        Check.dueAll("none behind it", new int[] {x.undo(9), x.told(3)}, 0, 3);
        x.years(2);
        Check.dueAll("two", new int[] {x.undo(9), x.told(3)}, 2, 3);

        Check.begin("16: a book() ends no undoing");
        x = Check.with(SALON);
        x.years(2);
        Check.book(x, "1 2;");
        Check.dueAll("two, and the book stays", new int[] {x.undo(9), x.told(8)}, 2, 1);
    }

    private static void taken() {
        Check.begin("17: NONE: VOID");
        ContraryChairs x = Check.with(SALON);
        x.years(4);
        Check.dueAll("years 1 to 4", new int[] {x.taken(1), x.taken(2), x.taken(3), x.taken(4)}, 2, NONE, 3, 1);
        Check.begin("17: -2: it is not over");
        Check.dueAll("this one and later ones", new int[] {x.taken(5), x.taken(6), x.taken(199), x.taken(200),
            x.taken(201), x.taken(Integer.MAX_VALUE)}, -2, -2, -2, -2, -2, -2);
        Check.due("in year 1", new ContraryChairs().taken(1), -2);
        Check.begin("17: -2: or was ahead of YEAR 1");
        Check.dueAll("0 and less", new int[] {x.taken(0), x.taken(-1), x.taken(-2), x.taken(Integer.MIN_VALUE)},
            -2, -2, -2, -2);
        Check.begin("17: Of YEARS 1 to 200");
        x = Check.with("man 1;man 1;seat 0;", "year / 199");
        for (int i = 0; i < 4; i++) {
            x.years(60);
        }
        Check.dueAll("at the end", new int[] {x.taken(1), x.taken(198), x.taken(199), x.taken(200)}, NONE, NONE, 1, -2);
        x.undo(1);
        Check.due("undone", x.taken(199), -2);
        Check.begin("17: who was taken in and is dead, or has left");
        x = Check.with("chairs 2;" + Check.men(5) + "seat 0;seat 1;", "number");
        x.years(3);
        x.die(3);
        Check.dueAll("all the same", new int[] {x.taken(1), x.taken(2), x.taken(3), x.man(4, 1)}, 4, 3, 2, 2);
    }

    private static void sums() {
        Check.begin("18: at first none");
        Check.dueAll("without men", Check.sums(new ContraryChairs()), 0, 0, 0, 0);
        Check.dueAll("who sit as told were not taken in", Check.sums(Check.with(Check.bench("010"))), 0, 0, 0, 0);
        Check.begin("18: MEN taken in in an empty ROW, and at once of those who LEFT");
        ContraryChairs x = Check.with("chairs 2;" + Check.men(16), "number + 1");
        x.years(17);
        Check.dueAll("all sixteen, and a void year", Check.sums(x), 1, 16, 14, 0);
        x.die(0);
        x.die(1);
        Check.dueAll("who LEFT and died", Check.sums(x), 1, 16, 14, 2);
        x.undo(60);
        x.academy(0);
        Check.dueAll("none again", Check.sums(x), 0, 0, 0, 0);
    }

    private static void die() {
        Check.begin("19: (0: he is dead)");
        ContraryChairs x = Check.with(Check.bench("0101") + "man 1 2;");
        Check.due("one who waits", x.die(4), 1);
        Check.due("again", x.die(4), 0);
        int[] ahead = Check.state(x);
        Check.due("and again", x.die(4), 0);
        Check.dueAll("nothing changes", Check.state(x), ahead);
        Check.begin("19: how many are gone by it");
        Check.due("with one who LEFT", x.die(1), 2);
        Check.due("who LEFT dies", x.die(2), 1);
        Check.due("the last ones", x.die(0), 1);
        Check.due("the last one", x.die(3), 1);
        Check.dueAll("all five", Check.sums(x), 0, 0, 1, 5);
        Check.begin("19: now, ahead of the YEAR's (a)");
        x = Check.with(Check.bench("010") + "man 1 2;dies 1 0;", "1");
        x.die(1);
        Check.dueAll("2 left at once", Check.row(x), 0);
        x.years(1);
        Check.dueAll("then 0 dies", Check.row(x), 3);
    }

    private static void praise() {
        Check.begin("20: praised by N (1 to 99) more");
        ContraryChairs x = Check.with("man 1;man 1;seat 0;", "0");
        Check.due("by 1", x.praise(1, 1), 1);
        Check.dueAll("then above 0", new int[] {x.score(1), x.next()}, 1, 1);
        Check.due("by 99", x.praise(1, 99), 1);
        Check.due("together", x.score(1), 100);
        Check.begin("20: this YEAR");
        ContraryChairs y = Check.with("man 1;man 1;seat 0;", "0-1");
        y.praise(1, 1);
        y.years(1);
        Check.due("not the next", y.score(1), -1);
        y.praise(1, 2);
        Check.due("this alone", y.score(1), 1);
        y.years(1);
        Check.due("taken in", y.taken(2), 1);

        x = Check.with("man 1;man 1;man 1;seat 2;", "0-100");
        x.praise(0, 9);
        x.praise(1, 8);
        x.years(1);
        x.praise(1, 7);
        Check.dueAll("of the YEAR ahead nothing is left", new int[] {x.score(0), x.score(1)}, -100, -93);

        Check.begin("20: 0: he is not WAITING");
        x = Check.with("chairs 2;" + Check.men(4) + "seat 0;seat 1;", "number");
        x.years(1);
        x.die(2);
        int[] ahead = Check.state(x);
        Check.dueAll("who left, sits, is dead, sits last", new int[] {x.praise(0, 1), x.praise(1, 99), x.praise(2, 1),
            x.praise(3, 1)}, 0, 0, 0, 0);
        Check.dueAll("nothing changes", Check.state(x), ahead);

        Check.begin("20: or 12 praises are told aside");
        x = Check.with(Check.men(3) + "seat 0;", "0");
        for (int i = 0; i < 12; i++) {
            // What is not told does not count.
            Check.due("who sits", x.praise(0, 1), 0);
            Check.due("praise " + (i + 1), x.praise(1 + i % 2, 1 + i % 2), 1);
        }
        ahead = Check.state(x);
        Check.dueAll("no thirteenth", new int[] {x.praise(1, 1), x.praise(2, 1), x.praise(2, 99)}, 0, 0, 0);
        Check.dueAll("nothing changes", Check.state(x), ahead);
        Check.dueAll("twelve", new int[] {x.score(1), x.score(2)}, 6, 12);
        Check.begin("20: told aside: apart from the ACADEMY's own");
        x = Check.with(Check.men(3) + "seat 0;" + Check.times(12, "praise 1 1 1;"), "0");
        Check.dueAll("both", new int[] {x.praise(1, 5), x.score(1), x.told(7)}, 1, 17, 12);
        Check.begin("20: a new ACADEMY has room for 12 again");
        for (int i = 0; i < 11; i++) {
            x.praise(1, 1);
        }
        Check.due("full", x.praise(1, 1), 0);
        Check.academy(x, Check.men(3) + "seat 0;");
        Check.due("and not", x.praise(1, 1), 1);
    }
}
