/** A test for each promise of the document: what is ordinary, the edges that it names, and wrong inputs. */
public final class PromiseTests {
    private static final int NONE = ContraryChairs.NONE;
    private static final String SALON = "question 2;question 3;chairs 3;man 40 0 0;man 30 1 1;man 50 1 2;"
        + "man 20 0 1;man 60 0 0;seat 0;praise 1 2 5;dies 3 4;";
    /** Four sit; the first, third and fourth agree. */
    private static final String BENCH = "question 2;man 1 0;man 2 1;man 3 0;man 4 0;chairs 5;"
        + "seat 0;seat 1;seat 2;seat 3;";
    /** Man 0 waits, against man 1 who sits, with 2 who agrees with him. */
    private static final String MIRROR = "question 2;man 0 1;man 1 0;man 2 1;seat 1;";
    /** Seven sit in two questions, none waits. */
    private static final String HALL = "question 3;question 2;chairs 7;man 1 0 0;man 1 1 1;man 1 0 0;man 1 2 1;"
        + "man 1 0 0;man 1 2 1;man 1 1 0;seat 0;seat 1;seat 2;seat 3;seat 4;seat 5;seat 6;";

    private PromiseTests() {
    }

    public static void main(String[] args) {
        texts();
        state();
        goingBy();
        asked();
        seen();
        company();
        smallerAnswers();
        fatesAndImages();
        Check.finish();
    }

    private static String times(int n, String text) {
        return text.repeat(n);
    }

    private static void texts() {
        Check.begin("promise 1, a new object");
        ContraryChairs x = new ContraryChairs();
        int[] told = new int[9];
        for (int what = 0; what <= 8; what++) {
            told[what] = x.told(what);
        }
        Check.dueAll("told", told, 0, 0, 6, 1, 0, 0, 0, 0, 0);
        Check.due("NONE", ContraryChairs.NONE, -1);
        Check.due("fault", x.fault(), NONE);
        Check.due("next", x.next(), NONE);
        Check.due("chair", x.chair(0), NONE);
        Check.unknown("man 0", () -> new ContraryChairs().man(0, 0));

        Check.begin("promise 2, feed");
        x = new ContraryChairs();
        // "man " "7;  " and blanks: read only if the highest byte comes first.
        Check.due("feed", x.feed(0x6d616e20, 0x373b2020, 0x20202020, 0x20202020, 0x20202020), 20);
        Check.due("academy", x.academy(6), 1);
        Check.due("the age fed", x.man(0, 0), 7);
        for (int i = 1; i <= 30; i++) {
            Check.due("feed " + i, x.feed(-1, i, 0, 0, 0), 20 * i);
        }
        Check.due("feed beyond 600", x.feed(1, 1, 1, 1, 1), NONE);
        Check.due("the tape stays", x.count(1), 600);
        Check.due("a byte of 255", x.academy(600), -9);

        academyTexts();
        lawTexts();
        bookTexts();
    }

    private static void academyFault(String text, int fault, int place) {
        ContraryChairs x = new ContraryChairs();
        Check.due("academy " + text, Check.academy(x, text), fault - 10);
        Check.due("the place in " + text, x.fault(), place);
        Check.due("the men stay", x.told(1), 0);
        Check.due("the tape is empty", x.count(1), 0);
    }

    private static void academyTexts() {
        Check.begin("promise 3, academy");
        ContraryChairs x = Check.with(SALON);
        Check.due("men", x.told(1), 5);
        Check.feed(x, "man 1;");
        Check.unfit("n over the tape", () -> x.academy(21));
        Check.unfit("n below 0", () -> x.academy(-1));
        Check.due("the tape stays", x.count(1), 20);
        Check.due("an empty academy", x.academy(0), 0);
        Check.due("the rest of the tape goes too", x.count(1), 0);
        Check.due("blanks, and none", Check.academy(x, "  question2 ;man  9 1;man 10   0 ;  "), 2);
        Check.due("leading noughts", Check.academy(x, "man 007;man 0000000000000000000000000099;"), 2);
        Check.due("age", x.man(0, 0), 7);
        whatAnAcademyEnds();
        academyFault("xan 1;", 1, 0);
        academyFault("manz 1;", 1, 0);
        academyFault("ma", 1, 0);
        academyFault("question 4;", 2, 9);
        academyFault("question 1;", 2, 9);
        academyFault("man 100;", 2, 4);
        academyFault("man 4294967297;", 2, 4);
        academyFault("question 2;man 1 2;", 2, 17);
        academyFault("question 2;man 1;", 1, 16);
        academyFault("question 2;man 1 0 0;", 1, 19);
        academyFault("question;", 1, 8);
        academyFault("question", 1, 8);
        academyFault("question  ", 1, 10);
        academyFault("question 2", 1, 10);
        academyFault("question 2 man 1;", 1, 11);
        academyFault("questions 2;", 1, 0);
        academyFault("; ", 1, 0);
        academyFault("man 1;;", 1, 6);
        academyFault("man 1x;", 1, 5);
        academyFault("Man 1;", 1, 0);
        academyFault("man -1;", 1, 4);
        academyFault("man\t1;", 1, 3);
        academyFault("chairs 1;", 2, 7);
        academyFault("chairs 13;", 2, 7);
        academyFault("man 1;seat 1;", 2, 11);
        academyFault("man 1;man 1;seat 0;seat 0;", 2, 24);
        academyFault("man 1;dies 0 0;", 2, 11);
        academyFault("man 1;dies 61 0;", 2, 11);
        academyFault("man 1;dies 60 1;", 2, 14);
        academyFault("man 1;praise 61 0 1;", 2, 13);
        academyFault("man 1;praise 1 1 1;", 2, 15);
        academyFault("man 1;praise 1 0 0;", 2, 17);
        academyFault("man 1;praise 1 0 100;", 2, 17);
        academyFault(times(7, "question 2;"), 3, 66);
        academyFault(times(6, "question 2;") + "man 1 0 0 0 0 0 0;question 2;", 3, 84);
        academyFault(times(17, "man 1;"), 3, 96);
        academyFault("chairs 2;" + times(3, "man 1;") + "seat 0;seat 1;seat 2;", 3, 41);
        academyFault(times(7, "man 1;") + "seat 0;seat 1;seat 2;seat 3;seat 4;seat 5;seat 6;", 3, 84);
        academyFault("man 1;" + times(13, "dies 1 0;"), 3, 114);
        academyFault("man 1;" + times(13, "praise 1 0 1;"), 3, 162);
        academyFault("man 1; question 2;", 4, 7);
        academyFault("man 1;seat 0;chairs 3;", 4, 13);
        academyFault("chairs 3;chairs 3;", 4, 9);
        // Of two faults the first from the left, though it is the greater one.
        academyFault("man 1;question 9;", 4, 6);
    }

    private static void whatAnAcademyEnds() {
        ContraryChairs x = Check.with(SALON);
        Check.law(x, "1 - 2");
        Check.book(x, "1 2;");
        x.image();
        x.years(2);
        Check.due("a fault", Check.academy(x, "man 1"), -9);
        Check.due("the year stays", x.told(3), 3);
        Check.due("undoing stays", x.count(2), 2);
        Check.due("the image stays", x.count(0), 1);
        Check.due("the book stays", x.told(8), 1);
        Check.due("the law stays", x.score(1), -1);
        Check.due("the men stay", x.told(1), 5);
        Check.due("told again", Check.academy(x, SALON), 5);
        Check.due("the first year", x.told(3), 1);
        Check.due("nothing to undo", x.count(2), 0);
        Check.due("no images", x.count(0), 0);
        Check.due("nothing to restore", x.restore(), NONE);
        Check.due("no book", x.told(8), 0);
        Check.due("no law", x.score(1), 20);
        x.praise(1, 9);
        x.years(4);
        x.die(2);
        x.die(0);
        Check.academy(x, "question 2;man 0 1;man 7 0;seat 1;");
        Check.dueAll("no sums", sums(x), 0, 0, 0, 0);
        Check.due("no praise aside", x.score(0), 10);
        Check.dueAll("a man anew", man(x, 0), 0, 0, NONE, 0, NONE);
        Check.dueAll("no deaths, no praise, usual chairs", new int[] {x.told(6), x.told(7), x.told(2)}, 0, 0, 6);
        for (int i = 0; i < 12; i++) {
            x.praise(0, 1);
        }
        Check.due("twelve aside", x.score(0), 22);
        Check.academy(x, MIRROR);
        Check.due("and room for more", x.praise(0, 1), 1);
    }

    private static void lawFault(String text, int fault, int place) {
        ContraryChairs x = Check.with(SALON);
        Check.due("law " + text, Check.law(x, text), fault - 10);
        Check.due("the place in " + text, x.fault(), place);
        Check.due("the law stays", x.score(1), 20);
        Check.due("the tape is empty", x.count(1), 0);
    }

    private static void lawScore(String text, int man, int want) {
        ContraryChairs x = Check.with(SALON);
        x.years(1);
        Check.due("law " + text, Check.law(x, text), 1);
        Check.due(text + " of " + man, x.score(man), want);
    }

    private static void lawTexts() {
        Check.begin("promise 4, law");
        ContraryChairs x = Check.with(SALON);
        x.years(2);
        Check.due("law", Check.law(x, "5"), 1);
        Check.due("years gone by stay", x.told(3), 3);
        Check.due("undoing ends here", x.undo(1), 0);
        Check.feed(x, times(10, "1+1+1+1+1+1+1+1+1+1+"));
        Check.unfit("n over 150", () -> x.law(151));
        Check.unfit("n below 0", () -> x.law(-1));
        Check.due("the tape stays", x.count(1), 200);
        Check.due("149 bytes", x.law(149), 1);
        Check.due("75 ones", x.score(1), 75);
        Check.feed(x, times(10, "1+1+1+1+1+1+1+1+1+1+"));
        Check.due("150 bytes", x.law(150), -9);
        Check.due("at the length", x.fault(), 150);
        Check.feed(x, "1");
        Check.unfit("n over the tape", () -> x.law(21));
        Check.due("the law stays", x.score(1), 75);
        // In the salon's second year two men sit and man 2 is the last one.
        lawScore("differs", 0, 2);
        lawScore("agrees", 1, 1);
        lawScore("waits", 1, 1);
        lawScore("waits", 2, 0);
        lawScore("age", 1, 31);
        lawScore("number", 3, 3);
        lawScore("year", 3, 2);
        lawScore("sat", 3, 2);
        lawScore("least[number,2]", 3, 2);
        lawScore("most [ number , 2 ]", 3, 3);
        lawScore("7 - 2 - 1", 1, 4);
        lawScore("2 + 3 * 4", 1, 14);
        lawScore("(2 + 3) * 4", 1, 20);
        lawScore("most[2, number]", 3, 3);
        lawScore("least[number, 2] + most[0, 5] * 2", 3, 12);
        lawScore("100 / 7 / 2", 1, 7);
        lawScore("7 / 2 * 2", 1, 6);
        lawScore("(0 - 7) / 2", 1, -3);
        lawScore("5 + 7 / 0", 1, 5);
        lawScore("999*999*999*999", 1, (int) (999L * 999 * 999 * 999));
        lawScore("0999", 1, 999);
        lawScore("((((((1))))))", 1, 1);
        lawScore("least[((((((0)))))+1),2]*least[1,2]".replace("((((((0)))))+1)", "(((((0)))))"), 1, 0);
        // -2 to the 31st, over -1, wraps to itself.
        lawScore("(0-512*512*512*16)/(0-1)", 1, Integer.MIN_VALUE);
        lawFault("", 1, 0);
        lawFault("  ", 1, 2);
        lawFault("differ", 1, 0);
        lawFault("differss", 1, 0);
        lawFault("1000", 2, 0);
        lawFault("1 + 1000", 2, 4);
        lawFault("1 2", 1, 2);
        lawFault("1 1000", 1, 2);
        lawFault("1)", 1, 1);
        lawFault("1 +", 1, 3);
        lawFault("+ 1", 1, 0);
        lawFault("(1", 1, 2);
        lawFault("()", 1, 1);
        lawFault("least [1]", 1, 8);
        lawFault("least [1,2", 1, 10);
        lawFault("least (1,2)", 1, 6);
        lawFault("most [1,2,3]", 1, 9);
        lawFault("(((((((1)))))))", 3, 6);
        lawFault("((((((least[1,2]))))))", 3, 6);
        lawFault("((((((most", 3, 6);
        lawFault("least[most[(((((1))))),2],1]", 3, 15);
        lawFault("((((((void", 1, 6);
        lawFault("least[((((((1)))))),1]", 3, 11);
        lawFault("least[1,((((((1))))))]", 3, 13);
        lawFault("xiffers", 1, 0);
        lawFault("1;", 1, 1);
    }

    private static void bookFault(String text, int fault, int place) {
        ContraryChairs x = Check.with(SALON);
        Check.book(x, "1 2;");
        Check.due("book " + text, Check.book(x, text), fault - 10);
        Check.due("the place in " + text, x.fault(), place);
        Check.due("the book stays", x.told(8), 1);
        Check.due("the tape is empty", x.count(1), 0);
    }

    private static void bookTexts() {
        Check.begin("promise 5, book");
        ContraryChairs x = Check.with(SALON);
        x.years(3);
        Check.due("lines", Check.book(x, " 1 2;2void ; 60 0;  "), 3);
        Check.due("undoing stays", x.count(2), 3);
        Check.due("twelve lines", Check.book(x, times(12, "1 void;")), 12);
        Check.feed(x, times(30, "1 2; "));
        Check.unfit("n over 150", () -> x.book(151));
        Check.unfit("n over the tape", () -> x.book(161));
        Check.unfit("n below 0", () -> x.book(-1));
        Check.due("the book stays", x.told(8), 12);
        Check.due("the tape stays", x.count(1), 160);
        Check.due("none", x.book(0), 0);
        bookFault("0 1;", 2, 0);
        bookFault("61 1;", 2, 0);
        bookFault("1 5;", 2, 2);
        bookFault("1 voids;", 1, 2);
        bookFault("1 void", 1, 6);
        bookFault("1 4", 1, 3);
        bookFault("1;", 1, 1);
        bookFault("void;", 1, 0);
        bookFault("1 2 3;", 1, 4);
        bookFault(times(12, "1 void;") + "1 void;", 3, 84);
        bookFault(times(12, "1 void;") + "  1 x", 3, 86);
        // Two faults in one place: the least.
        bookFault(times(12, "1 void;") + "61 void;", 2, 84);
        bookFault(times(12, "1 void;") + "x", 1, 84);

        Check.begin("promise 6, fault");
        ContraryChairs y = new ContraryChairs();
        Check.due("without a text", y.fault(), NONE);
        Check.academy(y, "man 1;x");
        Check.due("an academy's", y.fault(), 6);
        Check.law(y, "1+");
        Check.due("a law's", y.fault(), 2);
        Check.book(y, "1 0;");
        Check.due("a book's", y.fault(), 2);
        Check.unfit("no text", () -> y.law(151));
        Check.due("the latest text's still", y.fault(), 2);
        Check.law(y, "1");
        Check.due("a sound text", y.fault(), NONE);
    }

    private static void state() {
        Check.begin("promise 7, told");
        ContraryChairs x = Check.with(SALON);
        Check.book(x, "1 2;9 void;");
        x.years(3);
        int[] told = new int[9];
        for (int what = 0; what <= 8; what++) {
            told[what] = x.told(what);
        }
        Check.dueAll("told", told, 2, 5, 3, 4, 3, 1, 1, 1, 2);
        Check.due("the first man waits", Check.with(MIRROR).told(5), 2);
        Check.unfit("what 9", () -> x.told(9));
        Check.unfit("what -1", () -> x.told(-1));

        Check.begin("promise 8, man");
        x.years(1);
        Check.dueAll("who left", man(x, 0), 44, 2, NONE, 0, 0);
        Check.dueAll("who waited", man(x, 1), 34, 1, 2, 3, 4);
        Check.dueAll("who was taken in first", man(x, 2), 54, 1, 0, 0, 1);
        Check.dueAll("who died waiting", man(x, 4), 64, 3, NONE, 2, NONE);
        x.undo(4);
        Check.dueAll("who waits", man(x, 1), 30, 0, NONE, 0, NONE);
        Check.dueAll("who sits as told", man(x, 0), 40, 1, 0, 0, 0);
        Check.unknown("man 5", () -> x.man(5, 0));
        Check.unknown("man -1, ahead of what", () -> x.man(-1, 9));
        Check.unfit("what 5", () -> x.man(0, 5));
        Check.unfit("what -1", () -> x.man(0, -1));

        Check.begin("promise 9, sides");
        Check.due("question 0", x.sides(0), 2);
        Check.due("question 1", x.sides(1), 3);
        Check.unknown("question 2", () -> x.sides(2));
        Check.unknown("question -1", () -> x.sides(-1));

        Check.begin("promise 10, believes");
        Check.due("2 in 1", x.believes(2, 1), 2);
        Check.due("2 in 0", x.believes(2, 0), 1);
        Check.due("3 in 0", x.believes(3, 0), 0);
        Check.unknown("man 5", () -> x.believes(5, 0));
        Check.unknown("question 2", () -> x.believes(0, 2));
        Check.unknown("question -1", () -> x.believes(0, -1));

        Check.begin("promise 11, chair");
        ContraryChairs bench = Check.with(BENCH);
        Check.due("chair 0", bench.chair(0), 0);
        Check.due("chair 3", bench.chair(3), 3);
        Check.due("chair 4", bench.chair(4), NONE);
        Check.due("chair 11", bench.chair(11), NONE);
        Check.unfit("chair 12", () -> bench.chair(12));
        Check.unfit("chair -1", () -> bench.chair(-1));

        Check.begin("promise 12, differs");
        Check.due("0 and 2", x.differs(0, 2), 2);
        Check.due("2 and 1", x.differs(2, 1), 1);
        Check.due("0 and 4", x.differs(0, 4), 0);
        Check.due("himself", x.differs(2, 2), 0);
        ContraryChairs six = Check.with(times(6, "question 3;") + "man 1 0 1 2 0 1 2;man 1 1 2 0 2 0 1;man 1 0 1 2 0 1 1;");
        Check.due("in six", six.differs(0, 1), 6);
        Check.due("in one", six.differs(0, 2), 1);
        Check.unknown("man 5", () -> x.differs(5, 0));
        Check.unknown("other 5", () -> x.differs(0, 5));

        Check.begin("promise 13, score");
        Check.due("1", x.score(1), 20);
        Check.due("2, praised by 5", x.score(2), 25);
        Check.due("one who sits", x.score(0), 0);
        x.praise(3, 7);
        x.praise(3, 2);
        Check.due("praised aside twice", x.score(3), 19);
        x.years(1);
        Check.due("praise is over, and he waited", x.score(3), 21);
        x.praise(3, 1);
        Check.due("praised in another year", x.score(3), 22);
        ContraryChairs twice = Check.with("question 2;man 1 0;man 1 0;seat 0;praise 1 1 5;praise 1 1 6;praise 2 1 90;");
        Check.due("told praise adds up", twice.score(1), 11);
        Check.due("of one who sits", twice.score(0), 0);
        Check.due("the empty row's", Check.with("man 1;praise 1 0 9;").score(0), 0);
        ContraryChairs dies = Check.with("question 2;man 1 0;man 1 1;man 1 1;seat 0;seat 1;dies 1 1;");
        Check.due("ahead of the year's deaths", dies.score(2), 0);
        ContraryChairs mirror = Check.with(MIRROR);
        Check.due("the first man's", mirror.score(0), 10);
        mirror.years(3);
        Check.due("the first man's, who waited", mirror.score(0), 10 + 3);
        Check.unknown("man 5", () -> x.score(5));
    }

    private static int[] man(ContraryChairs x, int man) {
        int[] all = new int[5];
        for (int what = 0; what <= 4; what++) {
            all[what] = x.man(man, what);
        }
        return all;
    }

    private static void goingBy() {
        Check.begin("promise 14, next");
        ContraryChairs x = Check.with(SALON);
        Check.due("the greatest", x.next(), 2);
        Check.due("nothing stays changed", x.told(3), 1);
        Check.due("two alike", Check.with("question 2;man 1 0;man 1 1;man 1 1;seat 0;").next(), NONE);
        Check.due("none above 0", Check.with("question 2;man 1 0;man 1 0;seat 0;").next(), NONE);
        Check.due("of one above 0", Check.with("question 2;man 1 0;man 1 0;man 1 1;seat 0;").next(), 2);
        Check.due("nobody sits: the eldest", Check.with("man 3;man 5;man 5;").next(), 1);
        Check.due("behind deaths", Check.with("question 2;man 1 0;man 1 1;man 1 1;seat 0;seat 1;dies 1 1;").next(), 2);
        Check.due("nobody left", Check.with("man 1;dies 1 0;").next(), NONE);
        Check.due("the first man", Check.with("question 2;man 1 1;man 1 0;seat 1;").next(), 0);
        Check.due("the first man against another", Check.with(MIRROR).next(), NONE);
        Check.due("the eldest is the first", Check.with("man 9;man 5;").next(), 0);

        Check.begin("promise 15, years");
        ContraryChairs y = Check.with(SALON);
        Check.due("a year", y.years(1), 2);
        Check.due("and three", y.years(3), 5);
        Check.dueAll("the row", row(y), 2, 3, 1);
        Check.due("and 60", y.years(60), 65);
        y.years(60);
        y.years(60);
        Check.due("185", y.told(3), 185);
        Check.due("no further than 200", y.years(60), 200);
        Check.due("nor behind it", y.years(1), 200);
        Check.due("199 to undo", y.count(2), 199);
        Check.unfit("0 years", () -> y.years(0));
        Check.unfit("61 years", () -> y.years(61));
        deathsInYears();

        Check.begin("promise 16, undo");
        ContraryChairs u = Check.with(SALON);
        u.years(4);
        Check.due("two", u.undo(2), 2);
        Check.due("the year", u.told(3), 3);
        Check.dueAll("the row", row(u), 0, 2);
        Check.dueAll("the sums", sums(u), 1, 1, 0, 0);
        Check.due("he lives", u.man(4, 1), 0);
        Check.due("he waited", u.man(4, 3), 2);
        Check.due("no more than there are", u.undo(60), 2);
        Check.dueAll("the row", row(u), 0);
        Check.due("none", u.undo(1), 0);
        Check.unfit("0", () -> u.undo(0));
        Check.unfit("61", () -> u.undo(61));
        u.years(2);
        u.die(3);
        u.years(1);
        Check.due("to the latest die()", u.undo(9), 1);
        Check.due("he stays dead", u.man(3, 1), 3);
        u.years(1);
        Check.due("dead already", u.die(3), 0);
        Check.due("that ends nothing", u.undo(9), 1);
        u.praise(1, 3);
        u.years(2);
        Check.due("refused praise", u.praise(0, 3), 0);
        Check.law(u, "1 +");
        Check.due("to the latest praise()", u.undo(9), 2);
        Check.due("praise stays", u.score(1), 10 + 2 + 3);
        u.years(2);
        Check.law(u, "1");
        u.years(1);
        Check.due("to the latest law()", u.undo(9), 1);
        u.image();
        u.years(1);
        Check.due("over an image()", u.undo(9), 1);
        u.restore();
        Check.due("to the latest restore()", u.undo(9), 0);
        ContraryChairs r = Check.with(SALON);
        r.years(2);
        r.image();
        r.years(2);
        r.restore();
        Check.due("none ahead of restore()", r.undo(9), 0);
        Check.due("year 3 again", r.told(3), 3);
        r.years(2);
        Check.due("two behind it", r.undo(9), 2);
        Check.due("back at restore()", r.told(3), 3);

        Check.begin("promise 17, taken");
        ContraryChairs t = Check.with(SALON);
        t.years(4);
        Check.dueAll("by years", new int[] {t.taken(1), t.taken(2), t.taken(3), t.taken(4)}, 2, NONE, 3, 1);
        Check.due("not over", t.taken(5), -2);
        Check.due("ahead of the first", t.taken(0), -2);
        Check.due("far ahead", t.taken(Integer.MIN_VALUE), -2);
        Check.due("far behind", t.taken(Integer.MAX_VALUE), -2);
        t.undo(1);
        Check.due("undone", t.taken(4), -2);
        ContraryChairs first = Check.with("man 1;man 2;dies 1 1;");
        first.years(2);
        Check.dueAll("the first man", new int[] {first.taken(1), first.taken(2)}, 0, NONE);

        Check.begin("promise 18, sums");
        ContraryChairs s = Check.with(SALON);
        Check.dueAll("at first", sums(s), 0, 0, 0, 0);
        s.years(4);
        Check.dueAll("by year 5", sums(s), 1, 3, 1, 1);
        s.die(0);
        Check.dueAll("who left may die too", sums(s), 1, 3, 1, 2);
        Check.unfit("what 4", () -> s.sums(4));
        Check.unfit("what -1", () -> s.sums(-1));

        Check.begin("promise 19, die");
        ContraryChairs d = Check.with(BENCH);
        Check.due("the two behind go too", d.die(1), 3);
        Check.dueAll("the row", row(d), 0);
        Check.due("who left dies", d.die(2), 1);
        Check.due("dead already", d.die(1), 0);
        Check.due("the first one", Check.with(BENCH).die(0), 1);
        Check.due("the last one", Check.with(BENCH).die(3), 1);
        Check.due("neighbours who differ", Check.with("question 2;man 1 0;man 1 0;man 1 1;man 1 1;"
            + "seat 0;seat 1;seat 2;seat 3;").die(1), 1);
        Check.due("each against the one ahead of the gap", Check.with("question 2;man 1 1;man 1 0;man 1 1;man 1 0;man 1 0;"
            + "seat 0;seat 1;seat 2;seat 3;seat 4;").die(2), 3);
        Check.due("not against the one ahead of him", Check.with("question 2;man 1 1;man 1 0;man 1 0;man 1 1;"
            + "seat 0;seat 1;seat 2;seat 3;").die(2), 1);
        Check.due("only those in the gap", Check.with("question 2;man 1 0;man 1 1;man 1 0;man 1 1;man 1 1;"
            + "seat 0;seat 1;seat 2;seat 3;seat 4;").die(1), 2);
        Check.due("one who waits", Check.with(SALON).die(1), 1);
        Check.unknown("man 4", () -> d.die(4));

        Check.begin("promise 20, praise");
        ContraryChairs p = Check.with(SALON);
        Check.due("praised", p.praise(4, 30), 1);
        Check.due("he is next", p.next(), 4);
        Check.due("who sits is not", p.praise(0, 30), 0);
        for (int i = 2; i <= 12; i++) {
            Check.due("praise " + i, p.praise(1, 99), 1);
        }
        Check.due("a thirteenth", p.praise(1, 1), 0);
        Check.due("a score of twelve", p.score(1), 20 + 11 * 99);
        p.years(1);
        Check.due("all years' together", p.praise(2, 1), 0);
        Check.due("told praise counts apart", p.told(7), 1);
        Check.unknown("man 5", () -> p.praise(5, 0));
        Check.unfit("0", () -> p.praise(1, 0));
        Check.unfit("100, though he sits", () -> p.praise(0, 100));
    }

    private static void deathsInYears() {
        // Who sits dies in year 1, his neighbours agree, the later one leaves; the row fills up again.
        ContraryChairs x = Check.with("question 2;chairs 2;man 9 0;man 9 1;man 9 0;man 9 1;man 9 0;"
            + "seat 0;seat 1;dies 2 0;dies 2 0;");
        x.years(1);
        Check.dueAll("alike: void", row(x), 0, 1);
        x.die(2);
        x.years(1);
        Check.dueAll("he died and 4 is taken in", row(x), 1, 4);
        Check.dueAll("sums", sums(x), 1, 1, 0, 2);
        x.years(1);
        Check.dueAll("the first leaves a full row", row(x), 4, 3);
        Check.due("he left", x.man(1, 1), 2);
        ContraryChairs y = Check.with("question 2;chairs 3;man 9 0;man 9 1;man 9 0;man 9 1;"
            + "seat 0;seat 1;seat 2;dies 1 1;");
        y.years(1);
        Check.dueAll("2 leaves, 3 is taken in", row(y), 0, 3);
        Check.dueAll("sums", sums(y), 0, 1, 1, 1);
        ContraryChairs z = Check.with("man 7;man 9;man 9;seat 0;dies 1 0;dies 1 1;");
        z.years(1);
        Check.dueAll("the eldest who lives", row(z), 2);
    }

    private static int[] row(ContraryChairs x) {
        int[] row = new int[x.told(4)];
        for (int chair = 0; chair < row.length; chair++) {
            row[chair] = x.chair(chair);
        }
        return row;
    }

    private static int[] sums(ContraryChairs x) {
        return new int[] {x.sums(0), x.sums(1), x.sums(2), x.sums(3)};
    }

    private static void asked() {
        ContraryChairs x = Check.with(SALON);
        Check.begin("promise 21, ahead");
        Check.dueAll("now", ahead(x, 0), 0, 1, 0);
        Check.dueAll("in 1", ahead(x, 1), 2, 2, 0);
        Check.dueAll("in 2", ahead(x, 2), 2, 2, 1);
        Check.dueAll("in 4", ahead(x, 4), 1, 3, 1);
        Check.dueAll("in 60", ahead(x, 60), 1, 3, 57);
        Check.due("nobody", new ContraryChairs().ahead(3, 0), NONE);
        Check.due("nothing stays changed", x.told(3), 1);
        ContraryChairs later = Check.with(SALON);
        later.years(2);
        Check.due("void years from now on", later.ahead(3, 2), 1);
        Check.unfit("61 years", () -> x.ahead(61, 0));
        Check.unfit("-1 years", () -> x.ahead(-1, 0));
        Check.unfit("what 3", () -> x.ahead(1, 3));
        Check.unfit("what -1", () -> x.ahead(1, -1));

        Check.begin("promise 22, when");
        Check.due("2", x.when(2), 1);
        Check.due("3", x.when(3), 3);
        Check.due("1", x.when(1), 4);
        Check.due("who dies", x.when(4), NONE);
        Check.due("who sits", x.when(0), NONE);
        Check.unknown("man 5", () -> x.when(5));
        // 1 is above 0 in year 60 alone: the 60th from year 1, not from year 0 on.
        String late = "question 2;man 1 0;man 1 0;seat 0;praise 60 1 1;";
        ContraryChairs far = Check.with(late);
        Check.law(far, "0");
        Check.due("the 60th year", far.when(1), 60);
        far.years(60);
        Check.due("who sits by then", far.when(1), NONE);
        ContraryChairs farther = Check.with("man 1;man 1;seat 0;");
        Check.law(farther, "year - 60");
        Check.due("the 61st", farther.when(1), NONE);
        Check.due("by the death of him who sits, at once", farther.heir(0), 1);
        farther.years(1);
        Check.due("the 60th from year 2 on", farther.when(1), 61);
        Check.due("the first man", Check.with("question 2;man 1 1;man 1 0;seat 1;").when(0), 1);

        Check.begin("promise 23, breaks");
        Check.due("the salon", x.breaks(), 2);
        Check.due("an empty one", new ContraryChairs().breaks(), 1);
        ContraryChairs b = Check.with(SALON);
        b.years(2);
        Check.due("from year 3 on", b.breaks(), 5);
        Check.due("nobody left", Check.with("question 2;man 1 0;man 1 1;seat 0;").breaks(), 2);

        Check.begin("promise 24, praises");
        Check.due("one year", x.praises(4, 1, 30, 0), 1);
        Check.due("this year, he", x.praises(4, 1, 30, 1), 5);
        Check.due("nobody first", x.praises(4, 2, 5, 1), 5);
        Check.due("none is needed", x.praises(3, 3, 1, 0), 0);
        Check.due("nobody thrice", x.praises(3, 3, 1, 1), 0);
        Check.due("by none", x.praises(4, 1, 5, 0), NONE);
        Check.due("by none, the way", x.praises(4, 1, 5, 1), NONE);
        Check.due("who sits", x.praises(0, 3, 99, 0), NONE);
        // 20 + 6 is above 25 in year 1, but no more than 17 are against 21 in year 2.
        Check.due("the first year's digits are the highest", x.praises(1, 2, 6, 1), 200);
        Check.due("of three years", x.praises(1, 3, 30, 1), 2);
        Check.due("nothing stays changed", x.score(4), 0);
        // 1 and 2 have as much: with one of them taken in, 3 contradicts him.
        ContraryChairs two = Check.with("question 2;man 1 0;man 1 1;man 1 1;man 1 0;seat 0;");
        Check.due("by praise of another one", two.praises(3, 2, 5, 0), 1);
        Check.due("the first of both ways", two.praises(3, 2, 5, 1), 200);
        Check.due("too soon", two.praises(3, 1, 5, 0), NONE);
        // Then 4 has as much as 3.
        ContraryChairs three = Check.with("question 2;man 1 0;man 1 1;man 1 1;man 1 0;man 1 0;seat 0;");
        Check.due("two years", three.praises(3, 2, 5, 0), 2);
        Check.due("another one, then he", three.praises(3, 2, 5, 1), 204);
        Check.due("nobody ahead of both", three.praises(3, 3, 5, 1), 204);
        ContraryChairs mirror = Check.with(MIRROR);
        Check.due("the first man", mirror.praises(0, 2, 1, 0), 1);
        Check.due("the first man, late", mirror.praises(0, 2, 1, 1), 1);
        Check.due("the first man, at once", mirror.praises(0, 1, 99, 1), 1);
        Check.due("by praise of the first man", mirror.praises(2, 2, 5, 0), 1);
        Check.unknown("man 5", () -> x.praises(5, 9, 9, 9));
        Check.unfit("0 years", () -> x.praises(1, 0, 1, 0));
        Check.unfit("4 years", () -> x.praises(1, 4, 1, 0));
        Check.unfit("by 0", () -> x.praises(1, 1, 0, 0));
        Check.unfit("by 100", () -> x.praises(1, 1, 100, 0));
        Check.unfit("what 2", () -> x.praises(1, 1, 1, 2));
        Check.unfit("what -1", () -> x.praises(1, 1, 1, -1));
    }

    private static int[] ahead(ContraryChairs x, int years) {
        return new int[] {x.ahead(years, 0), x.ahead(years, 1), x.ahead(years, 2)};
    }

    private static void seen() {
        ContraryChairs x = Check.with(SALON);
        Check.begin("promise 25, beliefs");
        Check.due("any, without a book", x.beliefs(1, 0), 6);
        Check.due("the first", x.beliefs(1, 1), 0);
        Check.book(x, "1 2;2 void;3 3;");
        Check.due("ways", x.beliefs(1, 0), 4);
        Check.due("the first", x.beliefs(1, 1), 2);
        Check.due("he believes as before", x.believes(1, 1), 1);
        x.die(2);
        Check.due("as told, whatever was done", x.beliefs(1, 0), 4);
        Check.due("of no question", Check.with("man 1;").beliefs(0, 0), 1);
        Check.due("of no question, the first", Check.with("man 1;").beliefs(0, 1), 0);
        Check.unknown("man 5", () -> x.beliefs(5, 9));
        Check.unfit("what 2", () -> x.beliefs(1, 2));
        Check.unfit("what -1", () -> x.beliefs(1, -1));
        ContraryChairs y = Check.with("question 3;question 2;man 1 0 0;man 1 1 0;man 1 0 0;seat 0;");
        Check.book(y, "1 2;");
        // 1 has 10 points: 2 must differ in both.
        Check.due("both sides of the first", y.beliefs(2, 0), 2);
        Check.due("question 0 is the highest", y.beliefs(2, 1), 11);
        Check.book(y, "1 0;");
        Check.due("no way", y.beliefs(2, 0), 0);
        Check.due("no first", y.beliefs(2, 1), NONE);

        Check.begin("promise 26, sure");
        Check.due("no way", y.sure(2, 0), NONE);
        Check.book(y, "1 2;");
        Check.due("1 or 2", y.sure(2, 0), NONE);
        Check.due("1", y.sure(2, 1), 1);
        Check.book(y, "1 1;");
        // Man 0 must agree with 2 in question 0; question 1 tells nothing.
        Check.due("man 0's side", y.sure(0, 0), 0);
        Check.due("man 0's other side", y.sure(0, 1), NONE);
        Check.due("man 0's ways", y.beliefs(0, 0), 2);
        ContraryChairs z = Check.with("question 3;man 1 0;man 1 1;man 1 0;seat 0;");
        Check.book(z, "1 2;");
        Check.due("0, or 1's own side", z.beliefs(0, 1), 1);
        Check.due("1", z.sure(0, 0), 1);
        Check.due("0", z.sure(1, 0), NONE);
        ContraryChairs third = Check.with("question 3;man 1 0;man 1 1;man 1 2;seat 0;");
        Check.book(third, "1 1;");
        Check.due("as 2 believes, against 1", third.sure(0, 0), 2);
        Check.unknown("man 3", () -> z.sure(3, 0));
        Check.unknown("question 1", () -> z.sure(0, 1));

        Check.begin("promise 27, dead");
        ContraryChairs d = Check.with(SALON);
        Check.due("no book", d.dead(60), 65536 + 31);
        Check.book(d, "1 2;2 void;3 3;");
        // Man 4 is dead by then; 2 is the last one, whom 3 contradicts most, so both must live.
        Check.due("year 3", d.dead(3), 65536 + 1 + 2 + 16);
        Check.book(d, "1 1;");
        // Without 2, 1 is the greatest of year 1.
        Check.due("year 1", d.dead(1), 4);
        Check.due("year 2 is too late", d.dead(2), 0);
        ContraryChairs behind = Check.with("man 1;man 2;man 3;seat 0;dies 1 0;");
        Check.book(behind, "1 2;");
        Check.due("behind those told", behind.dead(1), 65536 + 1 + 2);
        Check.unfit("year 0", () -> d.dead(0));
        Check.unfit("year 61", () -> d.dead(61));

        Check.begin("promise 28, right");
        ContraryChairs r = Check.with(SALON);
        Check.due("no book", r.right(), 0);
        Check.book(r, "3 3;1 2;2 void;4 2;1 2;");
        Check.due("up to the first wrong one", r.right(), 3);
        r.die(3);
        r.praise(1, 90);
        r.years(2);
        Check.due("from year 1 on, as told", r.right(), 3);
        Check.law(r, "0");
        Check.due("by the law as it is", r.right(), 0);
        Check.book(r, "2 void;60 void;1 2;1 2;1 2;");
        Check.due("all", r.right(), 5);
    }

    private static void company() {
        ContraryChairs x = Check.with(SALON);
        Check.begin("promise 29, enemy");
        Check.dueAll("all", new int[] {x.enemy(0), x.enemy(1), x.enemy(2), x.enemy(3), x.enemy(4)}, 1, 0, 0, 2, 1);
        x.die(1);
        Check.due("no dead one", x.enemy(0), 2);
        Check.due("of a dead one", x.enemy(1), 0);
        Check.due("none but he", Check.with("man 1;").enemy(0), NONE);
        Check.due("who differs in nothing", Check.with("man 1;man 1;").enemy(1), 0);
        Check.unknown("man 5", () -> x.enemy(5));

        Check.begin("promise 30, ring");
        ContraryChairs y = Check.with(SALON);
        Check.due("0", y.ring(0, 0), 2);
        Check.due("3 comes to 0 and 1", y.ring(3, 0), 2);
        Check.due("the least", y.ring(3, 1), 0);
        Check.due("the least, from 1 on", y.ring(1, 1), 0);
        Check.due("the least, from 4 on", y.ring(4, 1), 0);
        Check.due("without an enemy", Check.with("man 1;").ring(0, 0), 0);
        Check.due("without an enemy, the least", Check.with("man 1;").ring(0, 1), NONE);
        ContraryChairs three = Check.with("question 2;man 1 0;man 1 0;man 1 0;");
        Check.due("all alike: 2 to 0 to 1", three.ring(2, 0), 2);
        three.die(0);
        three.die(1);
        Check.due("the last alive", three.ring(2, 0), 0);
        Check.due("a dead one comes to none", three.ring(0, 1), NONE);
        Check.unknown("man 5", () -> y.ring(5, 9));
        Check.unfit("what 2", () -> y.ring(0, 2));
        Check.unfit("what -1", () -> y.ring(0, -1));

        ContraryChairs hall = Check.with(HALL);
        Check.begin("promise 31, vote");
        // Question 0 by chairs: 0 1 0 2 0 2 1; question 1: 0 1 0 1 0 1 0.
        Check.due("all", hall.vote(0, 1, 0), 0);
        Check.due("odd chairs", hall.vote(0, 2, 1), 2);
        Check.due("every third: 0 2 1, the least", hall.vote(0, 3, 0), 0);
        Check.due("every third from 1: 1 0", hall.vote(0, 3, 1), 0);
        Check.due("every third from 2: 0 2", hall.vote(0, 3, 2), 0);
        Check.due("chair 5", hall.vote(0, 12, 5), 2);
        Check.due("chair 7", hall.vote(0, 12, 7), NONE);
        Check.due("r of k", hall.vote(0, 3, 3), NONE);
        Check.due("question 1", hall.vote(1, 2, 1), 1);
        Check.unknown("question 2", () -> hall.vote(2, 0, 0));
        Check.unfit("k 0", () -> hall.vote(0, 0, 0));
        Check.unfit("k 13", () -> hall.vote(0, 13, 0));
        Check.unfit("r 12", () -> hall.vote(0, 12, 12));
        Check.unfit("r -1", () -> hall.vote(0, 12, -1));

        Check.begin("promise 32, skip");
        Check.due("0 0 0 of even ones", hall.skip(0), 3);
        Check.due("all even ones", hall.skip(1), 4);
        Check.due("nobody sits", Check.with("question 2;").skip(0), 0);
        Check.due("one", Check.with("question 2;man 1 1;seat 0;").skip(0), 1);
        Check.due("broken rows", Check.with("question 2;man 1 0;man 1 0;man 1 1;man 1 0;man 1 0;man 1 1;"
            + "seat 0;seat 1;seat 2;seat 3;seat 4;seat 5;").skip(0), 2);
        Check.unknown("question 2", () -> hall.skip(2));

        Check.begin("promise 33, middle");
        Check.due("nobody", new ContraryChairs().middle(), NONE);
        ContraryChairs salon = Check.with(SALON);
        salon.years(4);
        Check.due("1 differs least", salon.middle(), 1);
        Check.due("the first in the row", Check.with("question 2;man 1 0;man 1 1;seat 1;seat 0;").middle(), 1);

        Check.begin("promise 34, flip");
        // Question 0: three 0, two 1, two 2: one must go so that 1 draws level? No: 0 leads then still.
        Check.due("three to two and two", hall.flip(0), 2);
        Check.due("four to three", hall.flip(1), 2);
        Check.due("a greater side leads", salon.flip(0), 1);
        Check.due("of one side alone", Check.with("question 2;man 1 0;seat 0;").flip(0), NONE);
        Check.due("nobody", Check.with("question 2;").flip(0), NONE);
        Check.unknown("question 2", () -> hall.flip(2));
        patrons();
    }

    private static void patrons() {
        Check.begin("promise 35, patrons");
        ContraryChairs x = Check.with(SALON);
        Check.due("quiet pairs", x.patrons(1, 3, 5, 0), 21);
        Check.due("the first", x.patrons(1, 3, 5, 1), 0);
        // 1 and 2 have as much. Quiet: nobody and 2; 1 and nobody; 1 and 1; 1 and 2; 2 and 2.
        ContraryChairs y = Check.with("question 2;man 1 0;man 1 1;man 1 1;seat 0;");
        Check.due("of two alike", y.patrons(1, 2, 5, 0), 5);
        Check.due("the first of two alike", y.patrons(1, 2, 5, 1), 3);
        Check.due("the other way round: nobody and 1 is first", y.patrons(2, 1, 5, 1), 2);
        ContraryChairs sole = Check.with("question 2;man 1 0;man 1 1;man 1 1;man 1 1;seat 0;dies 1 3;");
        Check.due("who dies this year may be praised", sole.patrons(1, 2, 5, 0), 7);
        Check.unknown("man 5", () -> x.patrons(5, 1, 0, 0));
        Check.unknown("other 5", () -> x.patrons(1, 5, 0, 0));
        Check.due("by 1, the least there is", x.patrons(1, 3, 1, 0), 25);
        ContraryChairs mirror = Check.with(MIRROR);
        Check.due("the first man's patron", mirror.patrons(0, 2, 5, 0), 5);
        Check.due("the first man's patron alone", mirror.patrons(0, 2, 5, 1), 3);
        Check.unfit("they are one", () -> x.patrons(1, 1, 5, 0));
        Check.unfit("one sits", () -> x.patrons(0, 3, 5, 0));
        Check.unfit("the other sits", () -> x.patrons(3, 0, 5, 0));
        Check.unfit("by 0", () -> x.patrons(1, 3, 0, 0));
        Check.unfit("by 100", () -> x.patrons(1, 3, 100, 0));
        Check.unfit("what 2", () -> x.patrons(1, 3, 5, 2));
        Check.unfit("what -1", () -> x.patrons(1, 3, 5, -1));
    }

    private static void smallerAnswers() {
        ContraryChairs x = Check.with(SALON);
        ContraryChairs bench = Check.with(BENCH);
        ContraryChairs hall = Check.with(HALL);
        Check.begin("promise 36, allies");
        Check.due("4", x.allies(0), 16);
        Check.due("none", x.allies(1), 0);
        Check.due("0", x.allies(4), 1);
        x.die(4);
        Check.due("dead or alive", x.allies(0), 16);
        Check.unknown("man 5", () -> x.allies(5));

        ContraryChairs y = Check.with(SALON);
        Check.begin("promise 37, rank");
        Check.dueAll("all", new int[] {y.rank(0), y.rank(1), y.rank(2), y.rank(3), y.rank(4)}, 3, 1, 0, 2, 3);
        Check.due("nobody sits", Check.with("man 1;man 2;").rank(0), 0);
        Check.due("the first man and 2 are greater", Check.with(MIRROR).rank(1), 2);
        Check.due("as much is not greater", Check.with(MIRROR).rank(2), 0);
        Check.unknown("man 5", () -> y.rank(5));

        Check.begin("promise 38, lead");
        Check.due("25 above 20", y.lead(), 5);
        y.praise(1, 5);
        Check.due("as much", y.lead(), 0);
        Check.due("nobody waits", Check.with("man 1;seat 0;").lead(), 0);
        ContraryChairs alone = Check.with("question 2;man 1 0;man 1 1;seat 0;");
        Check.due("alone", alone.lead(), 10);
        Check.law(alone, "0 - 7");
        Check.due("alone, below 0", alone.lead(), -7);
        ContraryChairs low = Check.with("man 1;man 1;man 1;seat 0;");
        Check.law(low, "number - 9");
        Check.due("both below 0", low.lead(), 1);
        ContraryChairs mixed = Check.with("man 20;man 14;man 17;man 1;seat 3;");
        Check.law(mixed, "age");
        Check.due("20 above 17", mixed.lead(), 3);
        ContraryChairs last = Check.with("man 14;man 17;man 20;man 1;seat 3;");
        Check.law(last, "age");
        Check.due("20 above 17, found last", last.lead(), 3);

        Check.begin("promise 39, wants");
        ContraryChairs w = Check.with(SALON);
        Check.dueAll("all", new int[] {w.wants(0), w.wants(1), w.wants(2), w.wants(3), w.wants(4)}, NONE, 6, 0, 16, 26);
        ContraryChairs edge = Check.with("man 1;man 1;man 1;seat 0;");
        Check.law(edge, "(2 - number) * 98");
        Check.due("99", edge.wants(2), 99);
        Check.law(edge, "(2 - number) * 99");
        Check.due("by none", edge.wants(2), NONE);
        Check.law(edge, "0");
        Check.due("above 0", edge.wants(2), 1);
        Check.due("not the eldest", Check.with("man 1;man 2;").wants(0), NONE);
        Check.due("the eldest", Check.with("man 1;man 2;").wants(1), 0);
        Check.due("who dies first", Check.with("man 1;man 2;dies 1 1;").wants(1), NONE);
        Check.unknown("man 5", () -> w.wants(5));

        Check.begin("promise 40, stays");
        Check.due("0", w.stays(0), 4);
        Check.due("who waits", w.stays(1), 0);
        Check.due("behind all 60", hall.stays(0), NONE);
        Check.due("the 60th", Check.with("man 1;seat 0;dies 60 0;").stays(0), 60);
        Check.unknown("man 5", () -> w.stays(5));

        Check.begin("promise 41, doomed");
        Check.due("2 and 3", bench.doomed(1), 12);
        Check.due("none", bench.doomed(0), 0);
        Check.due("the first man, who sits last", Check.with("question 2;man 1 0;man 1 1;man 1 0;"
            + "seat 2;seat 1;seat 0;").doomed(1), 1);
        Check.due("3, the neighbour behind 2? it stands at the end", bench.doomed(3), 0);
        Check.due("who waits", w.doomed(1), 0);
        Check.due("nothing stays changed", bench.told(4), 4);
        Check.unknown("man 4", () -> bench.doomed(4));

        Check.begin("promise 42, seams");
        Check.due("chair 3", bench.seams(), 8);
        Check.due("nobody", new ContraryChairs().seams(), 0);
        Check.due("all", Check.with("man 1;man 1;man 1;seat 2;seat 0;seat 1;").seams(), 6);

        Check.begin("promise 43, ringed");
        ContraryChairs v = Check.with(SALON);
        Check.due("0 and 1", v.ringed(), 3);
        Check.due("alone", Check.with("man 1;").ringed(), 0);
        v.die(0);
        // 1 and 4 differ in both, 2 and 3 too.
        Check.due("of those alive", v.ringed(), 2 + 16 + 4 + 8);
        ContraryChairs chain = Check.with("man 1;man 1;man 1;");
        Check.due("2 comes to 0 and 1, and not again", chain.ringed(), 3);

        Check.begin("promise 44, pair");
        Check.dueAll("of the rest", new int[] {v.pair(0), v.pair(1), v.pair(2)}, 1, 4, 2);
        ContraryChairs one = Check.with("man 1;man 1;");
        Check.dueAll("who differ in nothing", new int[] {one.pair(0), one.pair(1), one.pair(2)}, 0, 1, 0);
        one.die(0);
        Check.dueAll("one alive", new int[] {one.pair(0), one.pair(1), one.pair(2)}, NONE, NONE, NONE);
        Check.unfit("what 3", () -> v.pair(3));
        Check.unfit("what -1", () -> one.pair(-1));

        Check.begin("promise 45, quorum");
        // 0 leads from chair 0 on, also level.
        Check.due("from the first on", hall.quorum(0), 1);
        ContraryChairs salon = Check.with(SALON);
        salon.years(4);
        Check.due("lost in between", salon.quorum(0), 3);
        Check.due("found late", salon.quorum(1), 2);
        Check.due("nobody", Check.with("question 2;").quorum(0), 0);
        Check.due("all, by the odd ones", Check.with("question 2;man 1 1;man 1 0;man 1 1;man 1 0;man 1 0;man 1 0;"
            + "seat 0;seat 1;seat 2;seat 3;seat 4;seat 5;").quorum(0), 4);
        Check.unknown("question 2", () -> hall.quorum(2));

        Check.begin("promise 46, kin");
        Check.due("two of four", bench.kin(), 2);
        Check.due("four of seven", hall.kin(), 4);
        Check.due("nobody", new ContraryChairs().kin(), 0);

        Check.begin("promise 47, heir");
        Check.due("the eldest", w.heir(0), 4);
        Check.due("who waits", w.heir(1), NONE);
        Check.due("nobody comes", bench.heir(0), NONE);
        String alike = "question 2;man 1 0;man 1 0;man 1 0;man 1 0;seat 0;seat 1;";
        Check.due("two alike for all 60 years", Check.with(alike).heir(0), NONE);
        ContraryChairs h = Check.with(alike + "praise 60 3 5;");
        Check.due("in year 60", h.heir(0), 3);
        ContraryChairs slow = Check.with("man 1;man 1;man 1;seat 0;seat 1;");
        // With no question all agree, so 1 is ahead of the gap and nobody else leaves.
        Check.law(slow, "year - 60");
        Check.due("the 61st year is too late", slow.heir(0), NONE);
        slow.years(1);
        Check.due("the 60th is not", slow.heir(0), 2);
        Check.due("nothing stays changed", h.told(4), 2);
        Check.unknown("man 5", () -> w.heir(5));
    }

    private static void fatesAndImages() {
        ContraryChairs x = Check.with(SALON);
        Check.begin("promise 48, fates");
        Check.dueAll("by told deaths alone", fates(x, 5, 0, 4), 3, 1, 1, 1);
        Check.dueAll("all die", fates(x, 5, 16, 1), 1, 0, 1, 4);
        Check.dueAll("none is left", fates(x, 5, 16, 40), 0, 36, 5, NONE);
        // 1103515245 * 1 + 12345 = 0x41C67EA6 + ..: bits 16 to 30 of 1103527590 are 16838, by 16: 6.
        Check.due("a draw of 6 below 7", x.fates(1, 7, 1, 2), 1);
        Check.due("a draw of 6 not below 6", x.fates(1, 6, 1, 2), 0);
        Check.due("nothing stays changed", x.told(3), 1);
        ContraryChairs later = Check.with(SALON);
        later.years(3);
        Check.dueAll("of these years alone", fates(later, 5, 0, 2), 3, 1, 0, 1);
        StringBuilder twelve = new StringBuilder("chairs 12;question 2;");
        for (int i = 0; i < 13; i++) {
            twelve.append("man 1 ").append(i % 2).append(';');
        }
        for (int i = 0; i < 12; i++) {
            twelve.append("seat ").append(i).append(';');
        }
        ContraryChairs full = Check.with(twelve.toString());
        Check.dueAll("twelve die, the thirteenth is taken in", fates(full, 1, 16, 1), 1, 0, 12, 12);
        Check.dueAll("the twelfth is the last, the thirteenth the next", new int[] {full.ahead(0, 0), full.ahead(1, 0),
            full.ahead(1, 1), full.stays(0)}, 11, 12, 12, 1);
        // Seed 5 draws 15 9 8 5 1 12 8 in year 1.
        ContraryChairs hall = Check.with(HALL);
        for (int q = 0; q <= 16; q++) {
            int due = 0;
            for (int drawn : new int[] {15, 9, 8, 5, 1, 12, 8}) {
                due += drawn < q ? 1 : 0;
            }
            Check.due("deaths by " + q, hall.fates(5, q, 1, 2), due);
        }
        // 1 dies by his draw, 2 leaves by it, and who left dies by his own draw all the same.
        ContraryChairs left = Check.with("question 2;man 1 0;man 1 1;man 1 0;seat 0;seat 1;seat 2;");
        Check.due("all three die", left.fates(9, 16, 1, 2), 3);
        Check.unfit("q 17", () -> x.fates(1, 17, 1, 0));
        Check.unfit("q -1", () -> x.fates(1, -1, 1, 0));
        Check.unfit("0 years", () -> x.fates(1, 1, 0, 0));
        Check.unfit("41 years", () -> x.fates(1, 1, 41, 0));
        Check.unfit("what 4", () -> x.fates(1, 1, 1, 4));
        Check.unfit("what -1", () -> x.fates(1, 1, 1, -1));

        Check.begin("promise 49, span");
        Check.dueAll("no draws", span(x, 5, 3, 0, 4, 1), 3, 3, 3);
        Check.due("who left", x.span(5, 3, 0, 4, 2, 0), 0);
        int fewest = 99;
        int most = 0;
        for (int seed = 0; seed < 20; seed++) {
            int sit = x.fates(Integer.MAX_VALUE - 5 + seed, 4, 9, 0);
            fewest = Math.min(fewest, sit);
            most = Math.max(most, sit);
        }
        Check.due("fewest", x.span(Integer.MAX_VALUE - 5, 20, 4, 9, 0, 0), fewest);
        Check.due("most", x.span(Integer.MAX_VALUE - 5, 20, 4, 9, 1, 0), most);
        // Seed 2 draws 12, and seed 0 would draw 0.
        Check.due("seeds 1 and 2", x.span(1, 2, 7, 1, 2, 0), 1);
        Check.due("the last man", x.span(1, 1, 0, 1, 2, 4), 0);
        Check.due("the last man, who is taken in", x.span(1, 2, 16, 1, 2, 4), 2);
        Check.due("two seeds, one death", x.span(1, 1, 7, 1, 2, 0) + x.span(1, 1, 6, 1, 2, 0), 1);
        Check.unfit("no seeds", () -> x.span(1, 0, 0, 1, 0, 0));
        Check.unfit("21 seeds", () -> x.span(1, 21, 0, 1, 0, 0));
        Check.unfit("q 17", () -> x.span(1, 1, 17, 1, 0, 0));
        Check.unfit("0 years", () -> x.span(1, 1, 0, 0, 0, 0));
        Check.unfit("41 years", () -> x.span(1, 1, 0, 41, 0, 0));
        Check.unfit("what 3", () -> x.span(1, 1, 0, 1, 3, 0));
        Check.unfit("no such man, whatever is asked", () -> x.span(1, 1, 0, 1, 0, 5));
        Check.unfit("man -1", () -> x.span(1, 1, 0, 1, 2, -1));

        Check.begin("promise 50, image");
        ContraryChairs y = Check.with(SALON);
        Check.due("one", y.image(), 1);
        y.years(1);
        Check.due("two", y.image(), 2);
        y.years(1);
        Check.due("three", y.image(), 3);
        y.years(1);
        Check.due("no fourth", y.image(), NONE);
        Check.due("three still", y.count(0), 3);

        Check.begin("promise 51, restore");
        y.praise(1, 9);
        Check.law(y, "5");
        Check.book(y, "1 2;2 3;");
        Check.due("the latest", y.restore(), 2);
        Check.due("year 3", y.told(3), 3);
        Check.due("the law is kept", y.score(1), 5);
        Check.due("the book is kept", y.told(8), 2);
        Check.due("the one ahead", y.restore(), 1);
        Check.due("year 2", y.told(3), 2);
        Check.due("what was taken in", y.taken(1), 2);
        Check.due("room for another", y.image(), 2);
        Check.law(y, "5 +");
        Check.feed(y, "x");
        Check.due("again", y.restore(), 1);
        Check.due("the tape is kept", y.count(1), 20);
        Check.due("the fault is kept", y.fault(), 3);
        Check.due("the first one", y.restore(), 0);
        Check.dueAll("the row", row(y), 0);
        Check.due("nobody", y.taken(1), -2);
        Check.due("none is left", y.restore(), NONE);
        ContraryChairs p = Check.with(SALON);
        p.praise(1, 9);
        p.image();
        for (int i = 0; i < 11; i++) {
            p.praise(1, 9);
        }
        Check.due("twelve", p.praise(1, 9), 0);
        p.years(1);
        p.restore();
        Check.due("praise as it was", p.score(1), 29);
        Check.due("room for praise again", p.praise(1, 9), 1);

        Check.begin("promise 52, status");
        ContraryChairs s = Check.with(SALON);
        Check.dueAll("at first", new int[] {s.status(0), s.status(1)}, 0, 0);
        s.image();
        Check.unknown("man 9", () -> s.score(9));
        Check.unknown("man 9", () -> s.man(9, 9));
        Check.unfit("what 9", () -> s.told(9));
        Check.unknown("question 9", () -> s.sides(9));
        Check.unknown("question 9", () -> s.vote(9, 0, 0));
        s.restore();
        Check.dueAll("no image keeps it", new int[] {s.status(0), s.status(1)}, 4, 1);
        Check.academy(s, "man 1;");
        Check.dueAll("nor does an academy end it", new int[] {s.status(0), s.status(1)}, 4, 1);
        Check.due("others", s.status(2), NONE);
        Check.due("others", s.status(-1), NONE);

        Check.begin("promise 53, count");
        ContraryChairs c = Check.with(SALON);
        c.image();
        c.feed(0, 0, 0, 0, 0);
        c.years(3);
        Check.dueAll("all", new int[] {c.count(0), c.count(1), c.count(2), c.count(3), c.count(-1)}, 1, 20, 3, NONE, NONE);
        c.undo(1);
        Check.due("undone", c.count(2), 2);
    }

    private static int[] fates(ContraryChairs x, int seed, int q, int n) {
        return new int[] {x.fates(seed, q, n, 0), x.fates(seed, q, n, 1), x.fates(seed, q, n, 2), x.fates(seed, q, n, 3)};
    }

    private static int[] span(ContraryChairs x, int seed, int many, int q, int n, int man) {
        return new int[] {x.span(seed, many, q, n, 0, man), x.span(seed, many, q, n, 1, man), x.span(seed, many, q, n, 2, man)};
    }
}
