/**
 * The edges that the document's sentences on texts name, each with a test of its own that bears its words: promises
 * 1 to 6, and the terms of ACADEMY, LAW, BOOK and FAULTS.
 */
public final class TextEdges {
    private static final int NONE = ContraryChairs.NONE;
    private static final String SALON = "question 2;question 3;chairs 3;man 40 0 0;man 30 1 1;man 50 1 2;"
        + "man 20 0 1;man 60 0 0;seat 0;praise 1 2 5;dies 3 4;";
    /** 2 to the 31st, which wraps to the least number that there is. */
    private static final String LEAST = "512*512*512*16";

    private TextEdges() {
    }

    public static void main(String[] args) {
        newObject();
        tape();
        textsAndTheTape();
        questionsAndMen();
        seatsAndChairs();
        deathsAndPraise();
        sizeOfAnAcademy();
        signs();
        cuts();
        lawText();
        lawValues();
        lawFacts();
        bookText();
        leastFaults();
        faultPlace();
        Check.finish();
    }

    // ---- what is looked at

    private static void stands(String text, int men) {
        ContraryChairs x = new ContraryChairs();
        Check.due("academy " + text, Check.academy(x, text), men);
        Check.due("the place in " + text, x.fault(), NONE);
    }

    private static void academyFault(String text, int fault, int place) {
        ContraryChairs x = new ContraryChairs();
        Check.due("academy " + text, Check.academy(x, text), fault - 10);
        Check.due("the place in " + text, x.fault(), place);
    }

    private static void lawFault(String text, int fault, int place) {
        ContraryChairs x = new ContraryChairs();
        Check.due("law " + text, Check.law(x, text), fault - 10);
        Check.due("the place in " + text, x.fault(), place);
    }

    private static void lawStands(String text) {
        ContraryChairs x = new ContraryChairs();
        Check.due("law " + text, Check.law(x, text), 1);
        Check.due("the place in " + text, x.fault(), NONE);
    }

    /** What a law makes of man 1, who waits in year 1 while man 0 sits alone. */
    private static void makes(String law, int want) {
        Check.due(law, Check.with("man 1;man 1;seat 0;", law).score(1), want);
    }

    private static void bookStands(String text, int lines) {
        ContraryChairs x = Check.with(Check.men(3));
        Check.due("book " + text, Check.book(x, text), lines);
        Check.due("the place in " + text, x.fault(), NONE);
    }

    private static void bookFault(String text, int fault, int place) {
        ContraryChairs x = Check.with(Check.men(3));
        Check.due("book " + text, Check.book(x, text), fault - 10);
        Check.due("the place in " + text, x.fault(), place);
    }

    private static String times(int n, String text) {
        return Check.times(n, text);
    }

    // ---- promises 1 and 2

    private static void newObject() {
        Check.begin("1: an ACADEMY without CLAUSES");
        ContraryChairs x = new ContraryChairs();
        Check.dueAll("as an empty text's", Check.state(x), Check.state(Check.with("")));
        Check.dueAll("no questions, no men", new int[] {x.told(0), x.told(1)}, 0, 0);
        Check.dueAll("6 chairs without, year 1", new int[] {x.told(2), x.told(3)}, 6, 1);
        Check.dueAll("no refusals by now", new int[] {x.status(0), x.status(1)}, 0, 0);
        Check.due("void years alone", x.years(60), 61);
        Check.dueAll("sums", Check.sums(x), 60, 0, 0, 0);
    }

    private static void tape() {
        Check.begin("2: NONE, doing nothing, if there would be more than 600");
        ContraryChairs x = new ContraryChairs();
        for (int i = 1; i < 30; i++) {
            Check.due("feed " + i, x.feed(0x20202020, 0x20202020, 0x20202020, 0x20202020, 0x20202020), 20 * i);
        }
        // "man 7;" in the last twenty bytes that there is room for.
        Check.due("feed 30", x.feed(0x20202020, 0x20202020, 0x20202020, 0x20206d61, 0x6e20373b), 600);
        Check.due("feed 31", x.feed(-1, -1, -1, -1, -1), NONE);
        Check.due("feed 32", x.feed(0, 0, 0, 0, 0), NONE);
        Check.due("600 bytes still", x.count(1), 600);
        Check.due("as they were", x.academy(600), 1);
        Check.due("to the last of them", x.man(0, 0), 7);
        Check.due("and room again", x.feed(0, 0, 0, 0, 0), 20);
        Check.dueAll("nothing was refused", new int[] {x.status(0), x.status(1)}, 0, 0);

        Check.begin("2: of each number the highest first");
        ContraryChairs y = new ContraryChairs();
        y.feed(0x6d616e31, 0x3b6d616e, 0x323b6d61, 0x6e333b6d, 0x616e343b);
        Check.due("four men", y.academy(20), 4);
        Check.dueAll("in order", new int[] {y.man(0, 0), y.man(1, 0), y.man(2, 0), y.man(3, 0)}, 1, 2, 3, 4);
        y.feed(0x20202080, 0, 0, 0, 0);
        Check.due("a byte of 128 is none that may stand", y.academy(20), -9);
        Check.due("the lowest is the fourth", y.fault(), 3);
        y.feed(Integer.MIN_VALUE, 0, 0, 0, 0);
        Check.due("likewise the highest", y.academy(20), -9);
        Check.due("which is the first", y.fault(), 0);
    }

    // ---- promises 3 to 5: the tape, n, and what stays

    private static void textsAndTheTape() {
        Check.begin("3: the TAPE, empty then");
        ContraryChairs x = new ContraryChairs();
        Check.feed(x, times(6, "man 1;"));
        Check.due("the first n bytes alone", x.academy(6), 1);
        Check.due("none is left", x.count(1), 0);
        Check.feed(x, "man");
        Check.due("a fault", x.academy(3), -9);
        Check.due("empties it too", x.count(1), 0);
        Check.feed(x, "man 1;");
        Check.due("none of them", x.academy(0), 0);
        Check.due("empties it too", x.count(1), 0);

        Check.begin("3: n is not 0 to the TAPE's bytes (it stays)");
        lengths(20, n -> x.academy(n), x);
        ContraryChairs full = new ContraryChairs();
        Check.feed(full, times(600, " "));
        Check.unfit("academy 601", () -> full.academy(601));
        Check.due("all 600", full.academy(600), 0);
        Check.unfit("academy 1 of none", () -> full.academy(1));
        Check.due("academy 0 of none", full.academy(0), 0);

        Check.begin("4: the LAW, n to 150");
        lengths(20, n -> x.law(n), x);
        Check.feed(x, times(200, "1"));
        lengths(150, n -> x.law(n), x);
        Check.unfit("law 1 of none", () -> full.law(1));
        Check.due("law 0 of none", full.law(0), -9);

        Check.begin("5: the BOOK, n to 150");
        lengths(20, n -> x.book(n), x);
        Check.feed(x, times(200, " "));
        lengths(150, n -> x.book(n), x);
        Check.unfit("book 1 of none", () -> full.book(1));
        Check.due("book 0 of none", full.book(0), 0);

        whatATextLeaves();
    }

    private interface Text {
        int read(int n);
    }

    /** Lengths of a tape of at least so many bytes: 0 and the most that may be told are read, all others refused. */
    private static void lengths(int most, Text text, ContraryChairs x) {
        if (x.count(1) < most) {
            Check.feed(x, times(most, " "));
        }
        int bytes = x.count(1);
        int fault = x.fault();
        int refused = x.status(1);
        Check.unfit("length -1", () -> text.read(-1));
        Check.unfit("the least length", () -> text.read(Integer.MIN_VALUE));
        Check.unfit("length " + (most + 1), () -> text.read(most + 1));
        Check.unfit("the greatest length", () -> text.read(Integer.MAX_VALUE));
        Check.due("the tape stays", x.count(1), bytes);
        Check.due("the latest fault stays", x.fault(), fault);
        Check.due("four refusals", x.status(1), refused + 4);
        text.read(most);
        Check.due("length " + most + " is read", x.count(1), 0);
        Check.feed(x, " ");
        text.read(0);
        Check.due("length 0 is read", x.count(1), 0);
    }

    private static void whatATextLeaves() {
        Check.begin("3: or the FAULT less 10 (all but the TAPE stays)");
        ContraryChairs x = busy();
        int[] ahead = Check.state(x);
        Check.due("a fault behind much that is sound", Check.academy(x, "question 2;chairs 2;man 1 1;seat 0;dies"), -9);
        Check.due("at the length", x.fault(), 39);
        Check.dueAll("all stays", Check.state(x), ahead);

        Check.begin("3: YEAR 1; no LAW, BOOK, IMAGES, nothing to undo");
        Check.academy(x, SALON);
        Check.dueAll("as new", Check.state(x), Check.state(Check.with(SALON)));
        Check.due("year 1", x.told(3), 1);
        Check.due("no law", x.score(1), 20);
        Check.due("no book", x.told(8), 0);
        Check.due("no images", x.restore(), NONE);
        Check.due("nothing to undo", x.undo(60), 0);

        Check.begin("3: nothing of the MEN, the ROW and praise aside is left");
        String other = "question 2;man 1 0;man 1 1;man 1 1;seat 2;";
        x = Check.with(other);
        x.praise(0, 9);
        x.praise(1, 9);
        Check.academy(x, other);
        Check.dueAll("praise of the same YEAR", Check.state(x), Check.state(Check.with(other)));
        x.die(0);
        x.die(2);
        x.years(3);
        Check.academy(x, other);
        Check.dueAll("deaths and years", Check.state(x), Check.state(Check.with(other)));

        Check.begin("4: likewise a FAULT; YEARS gone by stay");
        x = busy();
        ahead = Check.state(x);
        Check.due("a fault behind much that is sound", Check.law(x, "999 + 999 +"), -9);
        Check.dueAll("all stays", Check.state(x), ahead);
        Check.due("a law", Check.law(x, "7"), 1);
        Check.due("the year stays", x.told(3), 3);
        Check.dueAll("the row stays", Check.row(x), 0, 2, 4);
        Check.dueAll("the image stays, nothing to undo", new int[] {x.count(0), x.count(2)}, 1, 0);

        Check.begin("5: likewise a FAULT of the BOOK");
        x = busy();
        ahead = Check.state(x);
        Check.due("a fault behind a line that is sound", Check.book(x, "9 4;1"), -9);
        Check.dueAll("all stays", Check.state(x), ahead);
        Check.due("none", Check.book(x, ""), 0);
        Check.due("no lines then", x.told(8), 0);
        Check.dueAll("image and years stay", new int[] {x.count(0), x.count(2), x.told(3)}, 1, 2, 3);
    }

    /** In year 3, with a law, a book, an image and two years to undo. */
    private static ContraryChairs busy() {
        ContraryChairs x = Check.with(SALON, "number - 2");
        Check.book(x, "1 2;2 4;");
        x.image();
        x.die(3);
        x.years(2);
        return x;
    }

    // ---- ACADEMY

    private static void questionsAndMen() {
        Check.begin("QUESTIONS, 6 at most");
        stands(times(6, "question 2;"), 0);
        academyFault(times(7, "question 2;"), 3, 66);
        academyFault(times(6, "question 2;") + " question", 3, 67);

        Check.begin("of S SIDES, 2 or 3");
        stands("question 2;question 3;", 0);
        academyFault("question 0;", 2, 9);
        academyFault("question 1;", 2, 9);
        academyFault("question 4;", 2, 9);
        academyFault("question 2;question 12;", 2, 20);

        Check.begin("QUESTIONS ahead of all men; 4 a question behind a man (at the word)");
        stands("chairs 2;question 2;man 1 1;", 1);
        academyFault("man 1;question 2;", 4, 6);
        academyFault("question 2;man 1 0;  question 2;", 4, 21);
        academyFault("man 1;seat 0;question", 4, 13);

        Check.begin("MEN, numbered from 0 on, 16 at most");
        ContraryChairs x = new ContraryChairs();
        Check.due("sixteen", Check.academy(x, times(15, "man 1;") + "man 99;"), 16);
        Check.dueAll("the last is 15", new int[] {x.man(15, 0), x.man(14, 0)}, 99, 1);
        academyFault(times(17, "man 1;"), 3, 96);
        academyFault(times(16, "man 1;") + "man", 3, 96);

        Check.begin("AGE G, 0 to 99");
        x = Check.with("man 0;man 99;");
        Check.dueAll("both", new int[] {x.man(0, 0), x.man(1, 0)}, 0, 99);
        academyFault("man 100;", 2, 4);
        academyFault("man -1;", 1, 4);

        Check.begin("for each QUESTION a SIDE, 0 to S less 1");
        x = Check.with("question 2;question 3;man 1 0 0;man 1 1 2;");
        Check.dueAll("the least", new int[] {x.believes(0, 0), x.believes(0, 1)}, 0, 0);
        Check.dueAll("the greatest", new int[] {x.believes(1, 0), x.believes(1, 1)}, 1, 2);
        academyFault("question 2;question 3;man 1 2 2;", 2, 28);
        academyFault("question 2;question 3;man 1 1 3;", 2, 30);

        Check.begin("a SIDE too few, a SIDE too many");
        academyFault("question 2;question 3;man 1 1;", 1, 29);
        academyFault("question 2;question 3;man 1 1 1 0;", 1, 32);
        academyFault("man 1 0;", 1, 6);
        academyFault("question 2;man 1;", 1, 16);
    }

    private static void seatsAndChairs() {
        Check.begin("no M twice; 2 an M that sits already");
        stands("man 1;man 1;seat 1;seat 0;", 2);
        academyFault("man 1;man 1;seat 0;seat 0;", 2, 24);
        academyFault("man 1;man 1;seat 1;seat 0;seat  1;", 2, 32);

        Check.begin("no more than there are CHAIRS; 3 a seat too many (at its word)");
        stands("chairs 2;" + Check.men(3) + "seat 2;seat 0;", 3);
        academyFault("chairs 2;" + Check.men(3) + "seat 2;seat 0;seat 1;", 3, 41);
        stands("chairs 12;" + Check.men(13) + Check.seats(12), 13);
        // Of two faults the first: that man 0 sits already stands behind the word.
        academyFault("chairs 12;" + Check.men(12) + Check.seats(12) + " seat 0;", 3, 169);

        Check.begin("chairs 6 without");
        stands(Check.men(7) + Check.seats(6), 7);
        academyFault(Check.men(7) + Check.seats(7), 3, 84);
        ContraryChairs x = Check.with("chairs 2;man 1;");
        Check.academy(x, "man 1;");
        Check.due("six, whatever was told ahead", x.told(2), 6);

        Check.begin("chairs N (2 to 12)");
        Check.due("two", Check.with("chairs 2;").told(2), 2);
        Check.due("twelve", Check.with("chairs 12;").told(2), 12);
        academyFault("chairs 0;", 2, 7);
        academyFault("chairs 1;", 2, 7);
        academyFault("chairs 13;", 2, 7);

        Check.begin("chairs once; 4 again (at the word)");
        academyFault("chairs 3;chairs 3;", 4, 9);
        academyFault("chairs 3;man 1;  chairs", 4, 17);
        academyFault("chairs 6;chairs 6;", 4, 9);

        Check.begin("chairs ahead of all seats; 4 chairs behind a seat (at the word)");
        stands("man 1;chairs 2;seat 0;", 1);
        academyFault("man 1;seat 0;chairs 2;", 4, 13);
        academyFault("man 1;seat 0; chairs", 4, 14);

        Check.begin("seat M: told ahead");
        stands("man 1;man 1;seat 1;", 2);
        academyFault("man 1;seat 1;man 1;", 2, 11);
        academyFault("seat 0;man 1;", 2, 5);
        academyFault("man 1;seat 99;", 2, 11);
    }

    private static void deathsAndPraise() {
        Check.begin("dies Y, 1 to 60");
        stands("man 1;dies 1 0;dies 60 0;", 1);
        academyFault("man 1;dies 0 0;", 2, 11);
        academyFault("man 1;dies 61 0;", 2, 11);

        Check.begin("dies M: told ahead");
        academyFault("man 1;dies 1 1;man 1;", 2, 13);
        academyFault("dies 1 0;", 2, 7);

        Check.begin("deaths, 12 at most; 3 a death too many (at its word)");
        Check.due("twelve", Check.with("man 1;" + times(12, "dies 1 0;")).told(6), 12);
        academyFault("man 1;" + times(13, "dies 1 0;"), 3, 114);
        academyFault("man 1;" + times(12, "dies 1 0;") + " dies 99", 3, 115);

        Check.begin("praise Y, 1 to 60");
        stands("man 1;praise 1 0 1;praise 60 0 1;", 1);
        academyFault("man 1;praise 0 0 1;", 2, 13);
        academyFault("man 1;praise 61 0 1;", 2, 13);

        Check.begin("praise M: told ahead");
        academyFault("man 1;praise 1 1 1;", 2, 15);
        academyFault("praise 1 0 1;man 1;", 2, 9);

        Check.begin("praise N more, 1 to 99");
        stands("man 1;praise 1 0 1;praise 1 0 99;", 1);
        academyFault("man 1;praise 1 0 0;", 2, 17);
        academyFault("man 1;praise 1 0 100;", 2, 17);

        Check.begin("praises, 12 at most; 3 a praise too many (at its word)");
        Check.due("twelve", Check.with("man 1;" + times(12, "praise 1 0 1;")).told(7), 12);
        academyFault("man 1;" + times(13, "praise 1 0 1;"), 3, 162);
        academyFault("man 1;" + times(12, "praise 1 0 1;") + "praise", 3, 162);
    }

    private static void sizeOfAnAcademy() {
        Check.begin("a text of up to 600 bytes");
        stands("man 1;" + times(594, " "), 1);
        stands(times(594, " ") + "man 1;", 1);
        academyFault(times(595, " ") + "man 1", 1, 600);
        stands("man " + times(594, "0") + "7;", 1);

        // 60 can't be told too often: with all that each word allows, these 57 are the most that 600 bytes hold.
        Check.begin("CLAUSES, at most 60");
        String most = times(4, "question2;") + "chairs12;" + times(16, "man0 0 0 0 0;")
            + Check.seats(12).replace(" ", "") + times(12, "dies1 0;") + times(12, "praise1 0 1;");
        ContraryChairs x = new ContraryChairs();
        Check.due("57 clauses of " + most.length() + " bytes", Check.academy(x, most), 16);
        Check.dueAll("all told", new int[] {x.told(0), x.told(1), x.told(2), x.told(4), x.told(6), x.told(7)},
            4, 16, 12, 12, 12, 12);
        Check.begin("no CLAUSES");
        stands("", 0);
    }

    // ---- numbers, words, blanks

    private static void signs() {
        Check.begin("numbers: digits, as many as stand there");
        ContraryChairs x = Check.with("man 00000000000000000000000000000000000042;man 000;man 1;");
        Check.dueAll("noughts ahead", new int[] {x.man(0, 0), x.man(1, 0)}, 42, 0);
        // By 32 or 64 bits that wrap these would be 0, 1 and 7.
        academyFault("man 4294967296;", 2, 4);
        academyFault("man 18446744073709551617;", 2, 4);
        academyFault("man 340282366920938463463374607431768211463;", 2, 4);
        academyFault("man " + times(590, "9") + ";", 2, 4);
        academyFault("man 1000000000" + times(20, "0") + ";", 2, 4);
        academyFault("man 1 0;", 1, 6);
        stands("man 1 ;", 1);
        lawFault("4294967297", 2, 0);
        bookFault("4294967297 0;", 2, 0);

        Check.begin("WORDS: small letters, as many as stand there");
        academyFault("mandies 1 0;", 1, 0);
        academyFault("mans 1;", 1, 0);
        academyFault("mana 1;", 1, 0);
        academyFault("manz 1;", 1, 0);
        academyFault("zman 1;", 1, 0);
        academyFault("xan 1;", 1, 0);
        academyFault("may 1;", 1, 0);
        academyFault("ma n 1;", 1, 0);
        academyFault("MAN 1;", 1, 0);
        academyFault("maN 1;", 1, 0);
        academyFault("m{n 1;", 1, 0);
        academyFault("`an 1;", 1, 0);
        academyFault("question 2;man 1 0;seats 0;", 1, 19);
        stands("question2;man1 0;seat0;dies1 0;praise1 0 1;", 1);
        stands("chairs2;", 0);
        lawFault("differsagrees", 1, 0);
        bookFault("1 voidvoid;", 1, 2);
        bookStands("1void;", 1);

        Check.begin("blanks may stand ahead of all these, and at the end");
        stands("   ", 0);
        stands("   question   2  ;  chairs  2  ;  man  1   0  ;  seat  0  ;   ", 1);
        bookStands("   ", 0);
        bookStands("  1   void  ;  2  0  ;   ", 2);
        lawStands("   most  [  1  ,  (  differs  *  2  )  ]  ");
        lawFault("   ", 1, 3);

        Check.begin("blanks (32): no other byte is one");
        for (char sign : new char[] {0, 9, 10, 12, 13, 31, 33, 127, 160, 255}) {
            academyFault("man 1;" + sign, 1, 6);
            academyFault(sign + "man 1;", 1, 0);
            academyFault("man" + sign + "1;", 1, 3);
            lawFault("1" + sign, 1, 1);
            bookFault("1" + sign + "void;", 1, 1);
        }
    }

    /** Whether a cut stands within a word: then what is left of that word can't stand at its place. */
    private static int cutWord(String text, int cut) {
        int from = cut;
        while (from > 0 && Character.isLetter(text.charAt(from - 1))) {
            from--;
        }
        boolean within = from < cut && cut < text.length() && Character.isLetter(text.charAt(cut));
        return within ? from : NONE;
    }

    private static void cuts() {
        Check.begin("1 at the length, if the text ends too early: an ACADEMY");
        for (int cut = 0; cut <= SALON.length(); cut++) {
            String text = SALON.substring(0, cut);
            int word = cutWord(SALON, cut);
            if (text.isEmpty() || text.endsWith(";")) {
                stands(text, text.split("man", -1).length - 1);
            } else {
                academyFault(text, 1, word == NONE ? cut : word);
            }
        }
        academyFault("man 1  ", 1, 7);
        academyFault("man  ", 1, 5);

        Check.begin("1 at the length, if the text ends too early: a LAW");
        String law = "least[most[differs*2,(waits+1)-age],sat/7]";
        for (int cut = 0; cut < law.length(); cut++) {
            int word = cutWord(law, cut);
            lawFault(law.substring(0, cut), 1, word == NONE ? cut : word);
        }
        lawStands(law);
        lawFault("1 +  ", 1, 5);

        Check.begin("1 at the length, if the text ends too early: a BOOK");
        String book = "1 2;3 void;60 0;";
        for (int cut = 0; cut <= book.length(); cut++) {
            String text = book.substring(0, cut);
            int word = cutWord(book, cut);
            if (text.isEmpty() || text.endsWith(";")) {
                bookStands(text, text.split(";", -1).length - 1);
            } else {
                bookFault(text, 1, word == NONE ? cut : word);
            }
        }
        bookFault("1  ", 1, 3);
    }

    // ---- LAW

    private static void lawText() {
        Check.begin("a LAW of up to 150 bytes");
        lawStands("1" + times(149, " "));
        lawStands(times(149, " ") + "1");
        lawFault(times(75, "1+"), 1, 150);
        makes(times(74, "1+") + "11", 85);
        lawStands("most" + times(138, " ") + "[1,sat]");

        Check.begin("E, at the end nothing more");
        lawFault("1;", 1, 1);
        lawFault("1 1", 1, 2);
        lawFault("differs 1", 1, 8);
        lawFault("(1))", 1, 3);
        lawFault("1]", 1, 1);
        lawFault("", 1, 0);

        Check.begin("N (0 to 999)");
        makes("0", 0);
        makes("999", 999);
        makes("0000999", 999);
        lawFault("1000", 2, 0);
        lawFault("1 - 1000", 2, 4);

        Check.begin("a 7th of ( least most that is open at one time");
        makes("((((((7))))))", 7);
        makes("least[most[least[most[least[most[1,7],9],7],9],7],9]", 7);
        makes("(least[(most[(least[1,2]),3]),4])", 3);
        lawFault("(((((((7)))))))", 3, 6);
        lawFault("(((((( (7)))))))", 3, 7);
        lawFault("((((((least[1,2]))))))", 3, 6);
        lawFault("((((((most[1,2]))))))", 3, 6);
        lawFault("((((((most", 3, 6);
        lawFault("least[1,most[1,least[1,most[1,least[1,most[1,(1)]]]]]]", 3, 45);
        lawFault("least[most[least[most[least[most[least[1,2],2],2],2],2],2],2]", 3, 33);

        Check.begin("open at one time: not one after the other");
        makes(times(9, "(1)+") + "1", 10);
        makes("((((((1))))))+((((((2))))))", 3);
        makes("least[(((((1))))),(((((2)))))]*(3)", 3);
        lawFault("((((((1))))))+(((((((2)))))))", 3, 20);
    }

    private static void lawValues() {
        Check.begin("values of 32 bits that wrap: +");
        makes(LEAST, Integer.MIN_VALUE);
        makes(LEAST + "-1+1", Integer.MIN_VALUE);
        makes(LEAST + "-1+999", Integer.MIN_VALUE + 998);
        Check.begin("values of 32 bits that wrap: -");
        makes(LEAST + "-1", Integer.MAX_VALUE);
        makes("0-" + LEAST, Integer.MIN_VALUE);
        Check.begin("values of 32 bits that wrap: *");
        makes("512*512*512*32", 0);
        makes("999*999*999*999", (int) (999L * 999 * 999 * 999));
        makes(LEAST + "*(0-1)", Integer.MIN_VALUE);
        Check.begin("values of 32 bits that wrap: /");
        makes(LEAST + "/(0-1)", Integer.MIN_VALUE);
        makes("(" + LEAST + "-1)/(0-1)", -Integer.MAX_VALUE);
        Check.begin("values of 32 bits that wrap: least and most look at what has wrapped");
        makes("least[" + LEAST + ",1]", Integer.MIN_VALUE);
        makes("most[" + LEAST + ",1]", 1);

        Check.begin("/ cuts");
        makes("7/2", 3);
        makes("1/2", 0);
        makes("(0-1)/2", 0);
        makes("(0-7)/2", -3);
        makes("7/(0-2)", -3);
        makes("(0-7)/(0-2)", 3);
        makes("7/2*2", 6);

        Check.begin("/ by 0 it is 0");
        makes("5/0", 0);
        makes("0/0", 0);
        makes("(0-5)/0", 0);
        makes("5/(sat-1)", 0);
        makes("3+5/0*7", 3);
        makes("8/(5/0)", 0);

        Check.begin("SCORE: what comes out, and all praise: it wraps");
        ContraryChairs x = Check.with("man 1;man 1;seat 0;praise 1 1 9;", LEAST + "-1");
        Check.due("told praise", x.score(1), Integer.MIN_VALUE + 8);
        Check.due("no longer above 0", x.next(), NONE);
        x.praise(1, 2);
        Check.due("and praise aside", x.score(1), Integer.MIN_VALUE + 10);
        ContraryChairs least = Check.with("man 1;man 1;seat 0;praise 1 1 1;", LEAST);
        Check.due("the least of them", least.score(1), Integer.MIN_VALUE + 1);
    }

    private static void lawFacts() {
        Check.begin("without a LAW: differs * 10 + waits");
        ContraryChairs x = Check.with("question 2;man 1 0;man 1 1;man 1 1;man 1 0;seat 0;");
        Check.dueAll("in year 1", new int[] {x.score(0), x.score(1), x.score(3)}, 0, 10, 0);
        x.years(3);
        Check.dueAll("in year 4", new int[] {x.score(0), x.score(1), x.score(3)}, 0, 13, 3);

        Check.begin("differs: none, and all six");
        String six = times(6, "question 3;") + "man 1 0 0 0 0 0 0;man 1 1 2 1 2 1 2;man 1 0 0 0 0 0 0;seat 0;";
        x = Check.with(six, "differs");
        Check.dueAll("himself, all, none", new int[] {x.score(0), x.score(1), x.score(2)}, 0, 6, 0);
        makes("differs", 0);
        Check.begin("agrees: none, and all six");
        x = Check.with(six, "agrees");
        Check.dueAll("himself, none, all", new int[] {x.score(0), x.score(1), x.score(2)}, 6, 0, 6);
        makes("agrees", 0);

        ContraryChairs old = Check.with(times(15, "man 0;") + "man 99;seat 0;");
        old.years(60);
        old.years(60);
        old.years(60);
        old.years(60);
        Check.begin("waits: at the ends of YEARS gone by");
        makes("waits", 0);
        x = Check.with("man 1;man 1;man 1;seat 0;");
        for (int i = 0; i < 4; i++) {
            x.years(60);
        }
        // At first they have no wait, and then always as much as each other.
        Check.law(x, "waits");
        Check.dueAll("in year 200", new int[] {x.score(0), x.score(1)}, 0, 199);
        Check.begin("age: AGE and all YEARS gone by");
        Check.law(x, "age");
        Check.due("in year 200", x.score(1), 200);
        Check.law(old, "age");
        Check.due("of the eldest in year 200", old.score(15), 99 + 199);
        makes("age", 1);
        Check.begin("year: from 1 to 200");
        Check.law(x, "year");
        Check.due("the last", x.score(1), 200);
        makes("year", 1);
        Check.begin("number: from 0 to 15");
        x = Check.with(Check.men(16) + "seat 3;", "number");
        Check.dueAll("first and last", new int[] {x.score(0), x.score(15)}, 0, 15);
        Check.begin("sat: from 1 to 12");
        makes("sat", 1);
        Check.due("twelve", Check.with("chairs 12;" + Check.men(16) + Check.seats(12), "sat").score(15), 12);
        Check.begin("least, most: of two that are alike");
        makes("least[4,4]", 4);
        makes("most[4,4]", 4);
        makes("least[3,4]*10+most[3,4]", 34);
        makes("least[4,3]*10+most[4,3]", 34);
    }

    // ---- BOOK

    private static void bookText() {
        Check.begin("a BOOK of up to 150 bytes");
        bookStands("1 0;" + times(146, " "), 1);
        bookStands(times(146, " ") + "1 0;", 1);
        bookFault(times(147, " ") + "1 0", 1, 150);
        bookStands("1 " + times(145, "0") + "2 ;", 1);

        Check.begin("12 lines at most; 3 a line too many (at its Y)");
        bookStands(times(12, "1 void;"), 12);
        bookStands(times(12, "60 2;"), 12);
        bookFault(times(13, "60 2;"), 3, 60);
        bookFault(times(12, "60 2;") + "  60", 3, 62);
        bookStands("", 0);

        Check.begin("in YEAR Y (1 to 60)");
        bookStands("1 0;60 0;", 2);
        bookFault("0 0;", 2, 0);
        bookFault("61 0;", 2, 0);
        bookFault("1 0; 61 void;", 2, 5);

        Check.begin("M was taken in: told in the ACADEMY");
        bookStands("1 0;1 2;", 2);
        bookFault("1 3;", 2, 2);
        bookFault("1 0;1 16;", 2, 6);
        ContraryChairs none = new ContraryChairs();
        Check.due("without men", Check.book(none, "1 0;"), -8);
        Check.due("void without men", Check.book(none, "1 void;"), 1);
        ContraryChairs all = Check.with(Check.men(16));
        Check.due("the sixteenth", Check.book(all, "1 15;"), 1);
        Check.due("no seventeenth", Check.book(all, "1 16;"), -8);

        Check.begin("what can't stand in a BOOK");
        bookFault("1;", 1, 1);
        bookFault("void;", 1, 0);
        bookFault(";", 1, 0);
        bookFault("1 2 3;", 1, 4);
        bookFault("1 void 3;", 1, 7);
        bookFault("1 vod;", 1, 2);
        bookFault("1 -1;", 1, 2);
    }

    // ---- FAULTS

    private static void leastFaults() {
        Check.begin("FAULTS, the first from the left");
        academyFault("man 1;question 9;man 200;", 4, 6);
        academyFault("man 200;question 2;", 2, 4);
        academyFault("question 2;man 1 x;man 1;question 2;", 1, 17);
        academyFault(times(7, "question 2;") + "x", 3, 66);
        lawFault("1000 + (((((((1", 2, 0);
        lawFault("(((((((1000", 3, 6);
        bookFault("1 9;61 0;x", 2, 2);

        Check.begin("of one the least: 3 and 4 at a word");
        academyFault(times(6, "question 2;") + "man 1 0 0 0 0 0 0;question 2;", 3, 84);
        Check.begin("of one the least: 1 and 2 at a number");
        lawFault("1 1000", 1, 2);
        academyFault("man 1 100;", 1, 6);
        Check.begin("of one the least: 2 and 3 at a Y");
        bookFault(times(12, "1 0;") + "61 0;", 2, 48);
        bookFault(times(12, "1 0;") + "0 0;", 2, 48);
        Check.begin("of one the least: 1 and 3 at a Y");
        bookFault(times(12, "1 0;") + "void;", 1, 48);
        bookFault(times(12, "1 0;") + ";", 1, 48);
    }

    private static void faultPlace() {
        Check.begin("6: the place of the FAULT of the latest text; NONE without");
        ContraryChairs x = new ContraryChairs();
        Check.due("no text", x.fault(), NONE);
        Check.academy(x, "x");
        Check.due("the first place", x.fault(), 0);
        Check.academy(x, times(599, " ") + "x");
        Check.due("the last place", x.fault(), 599);
        Check.academy(x, times(597, " ") + "man");
        Check.due("the length", x.fault(), 600);
        Check.law(x, "1");
        Check.due("a law without", x.fault(), NONE);
        Check.law(x, times(149, " ") + "x");
        Check.due("a law's last place", x.fault(), 149);
        Check.book(x, "");
        Check.due("a book without", x.fault(), NONE);
        Check.book(x, "1 void");
        Check.due("a book's length", x.fault(), 6);
        Check.unfit("no text at all", () -> x.academy(1));
        Check.unfit("no text at all", () -> x.law(-1));
        Check.unfit("no text at all", () -> x.book(1));
        Check.due("the latest one's still", x.fault(), 6);
        Check.academy(x, "");
        Check.due("an academy without", x.fault(), NONE);
    }
}
