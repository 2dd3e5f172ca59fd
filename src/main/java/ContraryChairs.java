import java.util.NoSuchElementException;

/** An academy into which, year by year, whoever contradicts the last one most is taken in. */
public final class ContraryChairs {
    public static final int NONE = -1;

    private static final int MOST_QUESTIONS = 6;
    private static final int MOST_SIDES = 3;
    private static final int MOST_MEN = 16;
    private static final int MOST_AGE = 99;
    private static final int MOST_CHAIRS = 12;
    private static final int USUAL_CHAIRS = 6;
    private static final int MOST_CLAUSES = 60;
    private static final int MOST_TOLD = 12;
    private static final int MOST_OPEN = 6;
    private static final int MOST_NUMBER = 999;
    private static final int MOST_PRAISE = 99;
    private static final int MOST_IMAGES = 3;
    private static final int MOST_SEEDS = 20;
    private static final int MOST_FATED = 40;
    private static final int MOST_WAYS = 729;
    private static final int MOST_PRAISED = 3;
    private static final int TAPE_BYTES = 600;
    private static final int SHORT_TEXT = 150;
    private static final int YEARS_ON = 60;
    private static final int LAST_TOLD_YEAR = 60;
    private static final int LAST_YEAR = 200;
    private static final int NOT_OVER = -2;

    private static final int WAITING = 0;
    private static final int SITS = 1;
    private static final int LEFT = 2;
    private static final int DEAD = 3;

    private static final int SOUND = 0;
    private static final int MISFIT = 1;
    private static final int BAD_NUMBER = 2;
    private static final int TOO_MANY = 3;
    private static final int OUT_OF_ORDER = 4;

    private final Tape tape = new Tape();
    private final Academy academy = new Academy();
    private final Academy draftAcademy = new Academy();
    private final Law law = new Law();
    private final Law draftLaw = new Law();
    private final Book book = new Book();
    private final Book draftBook = new Book();
    private final Row now = new Row();
    // Undoing plays the years again from here, so no year needs a copy of its own.
    private final Row undoEnd = new Row();
    private final Row[] images = new Row[MOST_IMAGES];
    private int imageCount;
    private final Calendar calendar = new Calendar(academy, law);
    private final Foresight foresight = new Foresight(academy, calendar, now);
    private final Records records = new Records(academy, book, calendar);
    private final Company company = new Company(academy, now);
    private int unknownCalls;
    private int unfitCalls;

    public ContraryChairs() {
        for (int i = 0; i < images.length; i++) {
            images[i] = new Row();
        }
    }

    public int feed(int a, int b, int c, int d, int e) {
        if (tape.size + 20 > TAPE_BYTES) {
            return NONE;
        }
        tape.put(a);
        tape.put(b);
        tape.put(c);
        tape.put(d);
        tape.put(e);
        return tape.size;
    }

    public int academy(int n) throws IllegalArgumentException {
        openText(n, TAPE_BYTES);
        draftAcademy.read(tape);
        if (tape.fault != SOUND) {
            return tape.fault - 10;
        }
        academy.copy(draftAcademy);
        law.beUsual();
        book.lines = 0;
        imageCount = 0;
        now.open(academy);
        undoEnd.copy(now);
        return academy.men;
    }

    public int law(int n) throws IllegalArgumentException {
        openText(n, SHORT_TEXT);
        draftLaw.read(tape);
        if (tape.fault != SOUND) {
            return tape.fault - 10;
        }
        law.copy(draftLaw);
        undoEnd.copy(now);
        return 1;
    }

    public int book(int n) throws IllegalArgumentException {
        openText(n, SHORT_TEXT);
        draftBook.read(tape, academy.men);
        if (tape.fault != SOUND) {
            return tape.fault - 10;
        }
        book.copy(draftBook);
        return book.lines;
    }

    public int fault() {
        return tape.place;
    }

    public int told(int what) throws IllegalArgumentException {
        need(within(what, 0, 8));
        switch (what) {
            case 0: return academy.questions;
            case 1: return academy.men;
            case 2: return academy.chairs;
            case 3: return now.year;
            case 4: return now.sat;
            case 5: return company.waitingMen();
            case 6: return academy.deaths;
            case 7: return academy.praises;
            default: return book.lines;
        }
    }

    public int man(int man, int what) throws NoSuchElementException, IllegalArgumentException {
        needMan(man);
        need(within(what, 0, 4));
        switch (what) {
            case 0: return academy.ageIn(man, now.year);
            case 1: return get(now.state, man);
            case 2: return now.chairOf(man);
            case 3: return get(now.waits, man);
            default: return get(now.since, man);
        }
    }

    public int sides(int question) throws NoSuchElementException {
        needQuestion(question);
        return get(academy.sides, question);
    }

    public int believes(int man, int question) throws NoSuchElementException {
        needMan(man);
        needQuestion(question);
        return academy.sideOf(man, question);
    }

    public int chair(int chair) throws IllegalArgumentException {
        need(within(chair, 0, MOST_CHAIRS - 1));
        return now.onChair(chair);
    }

    public int differs(int man, int other) throws NoSuchElementException {
        needMan(man);
        needMan(other);
        return academy.differing(man, other);
    }

    public int score(int man) throws NoSuchElementException {
        needMan(man);
        return calendar.scoreOf(now, man);
    }

    public int next() {
        return foresight.nextTaken();
    }

    public int years(int n) throws IllegalArgumentException {
        need(within(n, 1, YEARS_ON));
        for (int i = 0; i < n && now.year < LAST_YEAR; i++) {
            calendar.pass(now);
        }
        return now.year;
    }

    public int undo(int n) throws IllegalArgumentException {
        need(within(n, 1, YEARS_ON));
        int undone = Math.min(n, now.year - undoEnd.year);
        int year = now.year - undone;
        now.copy(undoEnd);
        for (int i = undoEnd.year; i < year; i++) {
            calendar.pass(now);
        }
        return undone;
    }

    public int taken(int year) {
        if (year < 1 || year >= now.year) {
            return NOT_OVER;
        }
        // A man is taken in once at most, so his own year tells the whole history.
        for (int man = 0; man < academy.men; man++) {
            if (get(now.since, man) == year) {
                return man;
            }
        }
        return NONE;
    }

    public int sums(int what) throws IllegalArgumentException {
        need(within(what, 0, 3));
        switch (what) {
            case 0: return now.voids;
            case 1: return now.entered;
            case 2: return now.left;
            default: return now.died;
        }
    }

    public int die(int man) throws NoSuchElementException {
        needMan(man);
        int gone = calendar.kill(now, man);
        if (gone > 0) {
            undoEnd.copy(now);
        }
        return gone;
    }

    public int praise(int man, int n) throws NoSuchElementException, IllegalArgumentException {
        needMan(man);
        need(within(n, 1, MOST_PRAISE));
        if (!now.isWaiting(man) || now.asides >= MOST_TOLD) {
            return 0;
        }
        now.asides++;
        now.praiseMore(man, n);
        undoEnd.copy(now);
        return 1;
    }

    public int ahead(int years, int what) throws IllegalArgumentException {
        need(within(years, 0, YEARS_ON));
        need(within(what, 0, 2));
        return foresight.behind(years, what);
    }

    public int when(int man) throws NoSuchElementException {
        needMan(man);
        return foresight.yearOfEntry(man);
    }

    public int breaks() {
        return foresight.yearOfEntry(NONE);
    }

    public int praises(int man, int n, int by, int what) throws NoSuchElementException, IllegalArgumentException {
        needMan(man);
        need(within(n, 1, MOST_PRAISED));
        need(within(by, 1, MOST_PRAISE));
        need(within(what, 0, 1));
        return foresight.waysToPraise(man, n, by, what);
    }

    public int beliefs(int man, int what) throws NoSuchElementException, IllegalArgumentException {
        needMan(man);
        need(within(what, 0, 1));
        records.tryBeliefs(man);
        return what == 0 ? records.ways : records.firstWay;
    }

    public int sure(int man, int question) throws NoSuchElementException {
        needMan(man);
        needQuestion(question);
        records.tryBeliefs(man);
        return records.onlySide(question);
    }

    public int dead(int year) throws IllegalArgumentException {
        need(within(year, 1, LAST_TOLD_YEAR));
        return records.deathsThatFit(year);
    }

    public int right() {
        return records.rightLines();
    }

    public int enemy(int man) throws NoSuchElementException {
        needMan(man);
        return company.worstEnemy(man);
    }

    public int ring(int man, int what) throws NoSuchElementException, IllegalArgumentException {
        needMan(man);
        need(within(what, 0, 1));
        return company.ringFrom(man, what);
    }

    public int vote(int question, int k, int r) throws NoSuchElementException, IllegalArgumentException {
        needQuestion(question);
        need(within(k, 1, 12));
        need(within(r, 0, 11));
        return company.voteBy(question, k, r);
    }

    public int skip(int question) throws NoSuchElementException {
        needQuestion(question);
        return company.longestSkip(question);
    }

    public int middle() {
        return company.mostMiddling();
    }

    public int flip(int question) throws NoSuchElementException {
        needQuestion(question);
        return company.fewestToFlip(question);
    }

    public int patrons(int man, int other, int by, int what) throws NoSuchElementException, IllegalArgumentException {
        needMan(man);
        needMan(other);
        need(man != other && now.isWaiting(man) && now.isWaiting(other));
        need(within(by, 1, MOST_PRAISE));
        need(within(what, 0, 1));
        return foresight.quietPairs(man, other, by, what);
    }

    public int allies(int man) throws NoSuchElementException {
        needMan(man);
        return company.alliesOf(man);
    }

    public int rank(int man) throws NoSuchElementException {
        needMan(man);
        return foresight.rankOf(man);
    }

    public int lead() {
        return foresight.leadOfGreatest();
    }

    public int wants(int man) throws NoSuchElementException {
        needMan(man);
        return foresight.praiseWanted(man);
    }

    public int stays(int man) throws NoSuchElementException {
        needMan(man);
        return foresight.yearsLeft(man);
    }

    public int doomed(int man) throws NoSuchElementException {
        needMan(man);
        return foresight.leavingWith(man);
    }

    public int seams() {
        return company.seamChairs();
    }

    public int ringed() {
        return company.ringedMen();
    }

    public int pair(int what) throws IllegalArgumentException {
        need(within(what, 0, 2));
        return company.mostUnlike(what);
    }

    public int quorum(int question) throws NoSuchElementException {
        needQuestion(question);
        return company.quorumOf(question);
    }

    public int kin() {
        return company.unlikeRows();
    }

    public int heir(int man) throws NoSuchElementException {
        needMan(man);
        return foresight.heirOf(man);
    }

    public int fates(int seed, int q, int n, int what) throws IllegalArgumentException {
        need(within(q, 0, 16));
        need(within(n, 1, MOST_FATED));
        need(within(what, 0, 3));
        return foresight.fateOf(seed, q, n, what);
    }

    public int span(int seed, int many, int q, int n, int what, int man) throws IllegalArgumentException {
        need(within(many, 1, MOST_SEEDS));
        need(within(q, 0, 16));
        need(within(n, 1, MOST_FATED));
        need(within(what, 0, 2));
        need(within(man, 0, academy.men - 1));
        foresight.tryFates(seed, many, q, n, man);
        switch (what) {
            case 0: return foresight.fewestSat;
            case 1: return foresight.mostSat;
            default: return foresight.sittings;
        }
    }

    public int image() {
        if (imageCount < 0 || imageCount >= images.length) {
            return NONE;
        }
        images[imageCount].copy(now);
        imageCount++;
        return imageCount;
    }

    public int restore() {
        if (imageCount < 1 || imageCount > images.length) {
            return NONE;
        }
        imageCount--;
        now.copy(images[imageCount]);
        undoEnd.copy(now);
        return imageCount;
    }

    public int status(int what) {
        switch (what) {
            case 0: return unknownCalls;
            case 1: return unfitCalls;
            default: return NONE;
        }
    }

    public int count(int what) {
        switch (what) {
            case 0: return imageCount;
            case 1: return tape.size;
            case 2: return now.year - undoEnd.year;
            default: return NONE;
        }
    }

    private void openText(int n, int most) {
        need(within(n, 0, Math.min(most, tape.size)));
        tape.open(n);
    }

    private void needMan(int man) {
        if (!within(man, 0, academy.men - 1)) {
            unknownCalls++;
            throw new NoSuchElementException();
        }
    }

    private void needQuestion(int question) {
        if (!within(question, 0, academy.questions - 1)) {
            unknownCalls++;
            throw new NoSuchElementException();
        }
    }

    private void need(boolean fits) {
        if (!fits) {
            unfitCalls++;
            throw new IllegalArgumentException();
        }
    }

    private static boolean within(int n, int least, int most) {
        return n >= least && n <= most;
    }

    // Rows are read and written by these two alone where an index is not a loop's own.
    private static int get(int[] row, int i) {
        return i >= 0 && i < row.length ? row[i] : 0;
    }

    private static void set(int[] row, int i, int value) {
        if (i >= 0 && i < row.length) {
            row[i] = value;
        }
    }

    /** The bytes fed, and the reading of one text from the front of them. */
    private static final class Tape {
        static final int END = -1;
        private static final int LARGE = 100000;

        final byte[] bytes = new byte[TAPE_BYTES];
        int size;
        int fault;
        int place = NONE;
        private int end;
        private int at;

        void put(int number) {
            for (int shift = 24; shift >= 0; shift -= 8) {
                if (size >= 0 && size < bytes.length) {
                    bytes[size] = (byte) (number >>> shift);
                    size++;
                }
            }
        }

        void open(int n) {
            size = 0;
            end = n;
            at = 0;
            fault = SOUND;
            place = NONE;
        }

        /** The first fault stays; from it on the text looks ended, so that reading comes to rest. */
        void fail(int kind, int where) {
            if (fault == SOUND) {
                fault = kind;
                place = where;
            }
        }

        /** What stands next, behind blanks; END behind the last byte. */
        int look() {
            while (at >= 0 && at < end && at < bytes.length && bytes[at] == ' ') {
                at++;
            }
            return fault == SOUND && at >= 0 && at < end && at < bytes.length ? bytes[at] & 255 : END;
        }

        /** The place of what stands next. */
        int lookAt() {
            look();
            return at;
        }

        boolean looksAtLetter() {
            return isLetter(look());
        }

        boolean looksAtDigit() {
            return isDigit(look());
        }

        void misfit() {
            fail(MISFIT, at);
        }

        boolean takesSign(char sign) {
            if (look() != sign) {
                return false;
            }
            at++;
            return true;
        }

        void sign(char sign) {
            if (look() == sign) {
                at++;
            } else {
                fail(MISFIT, at);
            }
        }

        boolean takesWord(String word) {
            look();
            int length = 0;
            while (length < TAPE_BYTES && isLetter(byteAt(at + length))) {
                length++;
            }
            if (length != word.length()) {
                return false;
            }
            for (int i = 0; i < word.length(); i++) {
                if (byteAt(at + i) != word.charAt(i)) {
                    return false;
                }
            }
            at += length;
            return true;
        }

        int number(int least, int most) {
            if (!looksAtDigit()) {
                misfit();
                return least;
            }
            int from = at;
            int value = 0;
            for (int i = 0; i < TAPE_BYTES && isDigit(byteAt(at)); i++) {
                value = Math.min(value * 10 + byteAt(at) - '0', LARGE);
                at++;
            }
            if (!within(value, least, most)) {
                fail(BAD_NUMBER, from);
                return least;
            }
            return value;
        }

        private int byteAt(int i) {
            return fault == SOUND && i >= 0 && i < end && i < bytes.length ? bytes[i] & 255 : END;
        }

        private static boolean isLetter(int sign) {
            return sign >= 'a' && sign <= 'z';
        }

        private static boolean isDigit(int sign) {
            return sign >= '0' && sign <= '9';
        }
    }

    /** What an academy's text tells. */
    private static final class Academy {
        private static final int QUESTION = 0;
        private static final int MAN = 1;
        private static final int SEAT = 2;
        private static final int CHAIRS = 3;
        private static final int DIES = 4;
        private static final int PRAISE = 5;
        // One bit of every question's two.
        private static final int LOW_BITS = 0x555;

        int questions;
        int men;
        int chairs = USUAL_CHAIRS;
        int seats;
        int deaths;
        int praises;
        // Of reading alone, so no copy has it.
        private boolean chairsTold;
        final int[] sides = new int[MOST_QUESTIONS];
        final int[] ages = new int[MOST_MEN];
        // All sides of a man in one number, two bits a question, so that men are compared at once.
        final int[] codes = new int[MOST_MEN];
        final int[] seated = new int[MOST_CHAIRS];
        final int[] deathYears = new int[MOST_TOLD];
        final int[] deathMen = new int[MOST_TOLD];
        final int[] praiseYears = new int[MOST_TOLD];
        final int[] praiseMen = new int[MOST_TOLD];
        final int[] praiseBy = new int[MOST_TOLD];

        void copy(Academy from) {
            questions = from.questions;
            men = from.men;
            chairs = from.chairs;
            seats = from.seats;
            deaths = from.deaths;
            praises = from.praises;
            System.arraycopy(from.sides, 0, sides, 0, MOST_QUESTIONS);
            System.arraycopy(from.ages, 0, ages, 0, MOST_MEN);
            System.arraycopy(from.codes, 0, codes, 0, MOST_MEN);
            System.arraycopy(from.seated, 0, seated, 0, MOST_CHAIRS);
            System.arraycopy(from.deathYears, 0, deathYears, 0, MOST_TOLD);
            System.arraycopy(from.deathMen, 0, deathMen, 0, MOST_TOLD);
            System.arraycopy(from.praiseYears, 0, praiseYears, 0, MOST_TOLD);
            System.arraycopy(from.praiseMen, 0, praiseMen, 0, MOST_TOLD);
            System.arraycopy(from.praiseBy, 0, praiseBy, 0, MOST_TOLD);
        }

        void read(Tape tape) {
            questions = 0;
            men = 0;
            chairs = USUAL_CHAIRS;
            seats = 0;
            deaths = 0;
            praises = 0;
            chairsTold = false;
            for (int clause = 0; clause <= MOST_CLAUSES && tape.look() != Tape.END; clause++) {
                readClause(tape, clause);
            }
        }

        private void readClause(Tape tape, int ahead) {
            int word = tape.lookAt();
            int kind = readKind(tape);
            if (kind == NONE) {
                tape.fail(MISFIT, word);
                return;
            }
            int fault = ahead >= MOST_CLAUSES ? TOO_MANY : faultOf(kind);
            if (fault != SOUND) {
                tape.fail(fault, word);
                return;
            }
            switch (kind) {
                case QUESTION: readQuestion(tape); break;
                case MAN: readMan(tape); break;
                case SEAT: readSeat(tape); break;
                case CHAIRS: readChairs(tape); break;
                case DIES: readDeath(tape); break;
                default: readPraise(tape); break;
            }
            tape.sign(';');
        }

        private static int readKind(Tape tape) {
            if (tape.takesWord("question")) {
                return QUESTION;
            }
            if (tape.takesWord("man")) {
                return MAN;
            }
            if (tape.takesWord("seat")) {
                return SEAT;
            }
            if (tape.takesWord("chairs")) {
                return CHAIRS;
            }
            if (tape.takesWord("dies")) {
                return DIES;
            }
            return tape.takesWord("praise") ? PRAISE : NONE;
        }

        private int faultOf(int kind) {
            switch (kind) {
                case QUESTION:
                    if (questions >= MOST_QUESTIONS) {
                        return TOO_MANY;
                    }
                    return men > 0 ? OUT_OF_ORDER : SOUND;
                case MAN: return men >= MOST_MEN ? TOO_MANY : SOUND;
                case SEAT: return seats >= chairs ? TOO_MANY : SOUND;
                case CHAIRS: return seats > 0 || chairsTold ? OUT_OF_ORDER : SOUND;
                case DIES: return deaths >= MOST_TOLD ? TOO_MANY : SOUND;
                default: return praises >= MOST_TOLD ? TOO_MANY : SOUND;
            }
        }

        private void readQuestion(Tape tape) {
            set(sides, questions, tape.number(2, MOST_SIDES));
            questions++;
        }

        private void readMan(Tape tape) {
            set(ages, men, tape.number(0, MOST_AGE));
            int code = 0;
            for (int question = 0; question < questions; question++) {
                code |= tape.number(0, get(sides, question) - 1) << 2 * question;
            }
            set(codes, men, code);
            men++;
        }

        private void readSeat(Tape tape) {
            int place = tape.lookAt();
            int man = readKnownMan(tape);
            for (int seat = 0; seat < seats; seat++) {
                if (get(seated, seat) == man) {
                    tape.fail(BAD_NUMBER, place);
                }
            }
            set(seated, seats, man);
            seats++;
        }

        private void readChairs(Tape tape) {
            chairs = tape.number(2, MOST_CHAIRS);
            chairsTold = true;
        }

        private void readDeath(Tape tape) {
            set(deathYears, deaths, tape.number(1, LAST_TOLD_YEAR));
            set(deathMen, deaths, readKnownMan(tape));
            deaths++;
        }

        private void readPraise(Tape tape) {
            set(praiseYears, praises, tape.number(1, LAST_TOLD_YEAR));
            set(praiseMen, praises, readKnownMan(tape));
            set(praiseBy, praises, tape.number(1, MOST_PRAISE));
            praises++;
        }

        private int readKnownMan(Tape tape) {
            return tape.number(0, men - 1);
        }

        int sideOf(int man, int question) {
            return get(codes, man) >> 2 * question & 3;
        }

        int ageIn(int man, int year) {
            return get(ages, man) + year - 1;
        }

        int differing(int man, int other) {
            int unlike = get(codes, man) ^ get(codes, other);
            return Integer.bitCount((unlike | unlike >> 1) & LOW_BITS);
        }

        boolean believeTheSame(int man, int other) {
            return get(codes, man) == get(codes, other);
        }

        int praiseTold(int man, int year) {
            int sum = 0;
            for (int i = 0; i < praises; i++) {
                if (get(praiseMen, i) == man && get(praiseYears, i) == year) {
                    sum += get(praiseBy, i);
                }
            }
            return sum;
        }
    }

    /** How much one contradicts: numbers, names, and behind their two values the signs between them. */
    private static final class Law {
        // A step of 0 and more is that number.
        private static final int PLUS = -1;
        private static final int MINUS = -2;
        private static final int TIMES = -3;
        private static final int OVER = -4;
        private static final int LEAST = -5;
        private static final int MOST = -6;
        // From here down the steps are facts, in the order in which they are kept.
        static final int DIFFERS = -7;
        static final int AGREES = -8;
        static final int WAITS = -9;
        static final int AGE = -10;
        static final int NUMBER = -11;
        static final int YEAR = -12;
        static final int SAT = -13;

        private final int[] steps = new int[SHORT_TEXT];
        private final int[] values = new int[SHORT_TEXT];
        private final int[] facts = new int[DIFFERS - SAT + 1];
        private int size;

        Law() {
            beUsual();
        }

        void beUsual() {
            size = 0;
            add(DIFFERS);
            add(10);
            add(TIMES);
            add(WAITS);
            add(PLUS);
        }

        void copy(Law from) {
            size = from.size;
            System.arraycopy(from.steps, 0, steps, 0, SHORT_TEXT);
        }

        private void add(int step) {
            if (size >= 0 && size < steps.length) {
                steps[size] = step;
                size++;
            }
        }

        void read(Tape tape) {
            size = 0;
            readSum(tape, 0);
            if (tape.look() != Tape.END) {
                tape.misfit();
            }
        }

        private void readSum(Tape tape, int open) {
            readProduct(tape, open);
            for (int i = 0; i < SHORT_TEXT; i++) {
                if (tape.takesSign('+')) {
                    readProduct(tape, open);
                    add(PLUS);
                } else if (tape.takesSign('-')) {
                    readProduct(tape, open);
                    add(MINUS);
                } else {
                    return;
                }
            }
        }

        private void readProduct(Tape tape, int open) {
            readUnit(tape, open);
            for (int i = 0; i < SHORT_TEXT; i++) {
                if (tape.takesSign('*')) {
                    readUnit(tape, open);
                    add(TIMES);
                } else if (tape.takesSign('/')) {
                    readUnit(tape, open);
                    add(OVER);
                } else {
                    return;
                }
            }
        }

        private void readUnit(Tape tape, int open) {
            int place = tape.lookAt();
            if (tape.looksAtDigit()) {
                add(tape.number(0, MOST_NUMBER));
            } else if (tape.takesSign('(')) {
                readBraced(tape, open, place);
            } else if (tape.takesWord("least")) {
                readTwo(tape, open, place);
                add(LEAST);
            } else if (tape.takesWord("most")) {
                readTwo(tape, open, place);
                add(MOST);
            } else {
                readName(tape);
            }
        }

        private void readBraced(Tape tape, int open, int place) {
            if (open >= MOST_OPEN) {
                tape.fail(TOO_MANY, place);
                return;
            }
            readSum(tape, open + 1);
            tape.sign(')');
        }

        private void readTwo(Tape tape, int open, int place) {
            if (open >= MOST_OPEN) {
                tape.fail(TOO_MANY, place);
                return;
            }
            tape.sign('[');
            readSum(tape, open + 1);
            tape.sign(',');
            readSum(tape, open + 1);
            tape.sign(']');
        }

        private void readName(Tape tape) {
            if (tape.takesWord("differs")) {
                add(DIFFERS);
            } else if (tape.takesWord("agrees")) {
                add(AGREES);
            } else if (tape.takesWord("waits")) {
                add(WAITS);
            } else if (tape.takesWord("age")) {
                add(AGE);
            } else if (tape.takesWord("number")) {
                add(NUMBER);
            } else if (tape.takesWord("year")) {
                add(YEAR);
            } else if (tape.takesWord("sat")) {
                add(SAT);
            } else {
                tape.misfit();
            }
        }

        void setFact(int name, int value) {
            set(facts, DIFFERS - name, value);
        }

        /** What comes out by the facts that were set. */
        int value() {
            int top = 0;
            for (int i = 0; i < size && i < steps.length; i++) {
                int step = steps[i];
                if (step <= PLUS && step >= MOST) {
                    if (top >= 2 && top <= values.length) {
                        values[top - 2] = join(step, values[top - 2], values[top - 1]);
                        top--;
                    }
                } else if (top < values.length) {
                    values[top] = step >= 0 ? step : get(facts, DIFFERS - step);
                    top++;
                }
            }
            return values[0];
        }

        private static int join(int step, int a, int b) {
            switch (step) {
                case PLUS: return a + b;
                case MINUS: return a - b;
                case TIMES: return a * b;
                case OVER: return b == 0 ? 0 : a / b;
                case LEAST: return a < b ? a : b;
                default: return a > b ? a : b;
            }
        }
    }

    /** Years that were seen: in each whoever was taken in, or NONE. */
    private static final class Book {
        int lines;
        final int[] years = new int[MOST_TOLD];
        final int[] men = new int[MOST_TOLD];

        void copy(Book from) {
            lines = from.lines;
            System.arraycopy(from.years, 0, years, 0, MOST_TOLD);
            System.arraycopy(from.men, 0, men, 0, MOST_TOLD);
        }

        void read(Tape tape, int known) {
            lines = 0;
            for (int i = 0; i <= MOST_TOLD && tape.look() != Tape.END; i++) {
                readLine(tape, known);
            }
        }

        private void readLine(Tape tape, int known) {
            int place = tape.lookAt();
            int year = tape.number(1, LAST_TOLD_YEAR);
            if (lines >= MOST_TOLD) {
                tape.fail(TOO_MANY, place);
            }
            int man = NONE;
            if (!tape.looksAtLetter()) {
                man = tape.number(0, known - 1);
            } else if (!tape.takesWord("void")) {
                tape.misfit();
            }
            tape.sign(';');
            set(years, lines, year);
            set(men, lines, man);
            lines++;
        }

        int lastYear() {
            int last = 0;
            for (int line = 0; line < lines; line++) {
                last = Math.max(last, get(years, line));
            }
            return last;
        }

        boolean allows(int year, int man) {
            for (int line = 0; line < lines; line++) {
                if (get(years, line) == year && get(men, line) != man) {
                    return false;
                }
            }
            return true;
        }
    }

    /** All that the years change: who sits, what became of the men, the sums. */
    private static final class Row {
        int year = 1;
        int sat;
        int voids;
        int entered;
        int left;
        int died;
        int asides;
        private int asideYear;
        final int[] chairs = new int[MOST_CHAIRS + 1];
        final int[] state = new int[MOST_MEN];
        final int[] waits = new int[MOST_MEN];
        final int[] since = new int[MOST_MEN];
        // Praise told aside counts in its own year alone, so that of one year is kept.
        private final int[] aside = new int[MOST_MEN];

        void open(Academy academy) {
            year = 1;
            sat = 0;
            voids = 0;
            entered = 0;
            left = 0;
            died = 0;
            asides = 0;
            asideYear = 0;
            for (int man = 0; man < MOST_MEN; man++) {
                state[man] = WAITING;
                waits[man] = 0;
                since[man] = NONE;
            }
            for (int seat = 0; seat < academy.seats; seat++) {
                sitDown(get(academy.seated, seat), 0);
            }
        }

        void copy(Row from) {
            year = from.year;
            sat = from.sat;
            voids = from.voids;
            entered = from.entered;
            left = from.left;
            died = from.died;
            asides = from.asides;
            asideYear = from.asideYear;
            System.arraycopy(from.chairs, 0, chairs, 0, MOST_CHAIRS + 1);
            System.arraycopy(from.state, 0, state, 0, MOST_MEN);
            System.arraycopy(from.waits, 0, waits, 0, MOST_MEN);
            System.arraycopy(from.since, 0, since, 0, MOST_MEN);
            System.arraycopy(from.aside, 0, aside, 0, MOST_MEN);
        }

        boolean isWaiting(int man) {
            return get(state, man) == WAITING;
        }

        boolean isAlive(int man) {
            return get(state, man) != DEAD;
        }

        int onChair(int chair) {
            return chair >= 0 && chair < sat ? get(chairs, chair) : NONE;
        }

        int last() {
            return sat > 0 ? get(chairs, sat - 1) : NONE;
        }

        int chairOf(int man) {
            for (int chair = 0; chair < sat; chair++) {
                if (get(chairs, chair) == man) {
                    return chair;
                }
            }
            return NONE;
        }

        void sitDown(int man, int when) {
            if (sat < chairs.length) {
                set(chairs, sat, man);
                sat++;
                set(state, man, SITS);
                set(since, man, when);
            }
        }

        void vacate(int chair) {
            if (chair < 0 || chair >= sat) {
                return;
            }
            for (int i = chair + 1; i < sat; i++) {
                set(chairs, i - 1, get(chairs, i));
            }
            sat--;
        }

        void leave(int chair) {
            set(state, get(chairs, chair), LEFT);
            left++;
            vacate(chair);
        }

        void praiseMore(int man, int by) {
            if (asideYear != year) {
                asideYear = year;
                for (int i = 0; i < aside.length; i++) {
                    aside[i] = 0;
                }
            }
            set(aside, man, get(aside, man) + by);
        }

        int praiseAside(int man) {
            return asideYear == year ? get(aside, man) : 0;
        }
    }

    /** How a year goes by. */
    private static final class Calendar {
        private final Academy academy;
        private final Law law;
        /** The scores of the latest year that was scored. */
        final int[] scores = new int[MOST_MEN];

        Calendar(Academy academy, Law law) {
            this.academy = academy;
            this.law = law;
        }

        /** A whole year; whoever is taken in in it. */
        int pass(Row row) {
            tellDeaths(row);
            return settle(row);
        }

        void tellDeaths(Row row) {
            for (int i = 0; i < academy.deaths; i++) {
                if (get(academy.deathYears, i) == row.year) {
                    kill(row, get(academy.deathMen, i));
                }
            }
        }

        /** What is left of a year behind its deaths. */
        int settle(Row row) {
            scoreAll(row);
            int man = choose(row);
            if (man == NONE) {
                row.voids++;
            } else {
                row.entered++;
                row.sitDown(man, row.year);
            }
            if (row.sat > academy.chairs) {
                row.leave(0);
            }
            for (int other = 0; other < academy.men; other++) {
                if (row.isWaiting(other)) {
                    set(row.waits, other, get(row.waits, other) + 1);
                }
            }
            row.year++;
            return man;
        }

        /** How many are gone by the death of a man. */
        int kill(Row row, int man) {
            if (!row.isAlive(man)) {
                return 0;
            }
            int chair = row.chairOf(man);
            set(row.state, man, DEAD);
            row.died++;
            row.vacate(chair);
            int gone = 1;
            for (int i = 0; i < MOST_CHAIRS && agreeAcross(row, chair); i++) {
                row.leave(chair);
                gone++;
            }
            return gone;
        }

        private boolean agreeAcross(Row row, int chair) {
            return chair > 0 && chair < row.sat
                && academy.believeTheSame(row.onChair(chair - 1), row.onChair(chair));
        }

        int scoreOf(Row row, int man) {
            if (row.sat < 1) {
                return 0;
            }
            int unlike = academy.differing(man, row.last());
            law.setFact(Law.DIFFERS, unlike);
            law.setFact(Law.AGREES, academy.questions - unlike);
            law.setFact(Law.WAITS, get(row.waits, man));
            law.setFact(Law.AGE, academy.ageIn(man, row.year));
            law.setFact(Law.NUMBER, man);
            law.setFact(Law.YEAR, row.year);
            law.setFact(Law.SAT, row.sat);
            return law.value() + academy.praiseTold(man, row.year) + row.praiseAside(man);
        }

        void scoreAll(Row row) {
            for (int man = 0; man < academy.men; man++) {
                if (row.isWaiting(man)) {
                    set(scores, man, scoreOf(row, man));
                }
            }
        }

        /** Whoever is taken in by the scores as they stand. */
        int choose(Row row) {
            return row.sat < 1 ? eldest(row) : greatest(row);
        }

        private int eldest(Row row) {
            int eldest = NONE;
            for (int man = 0; man < academy.men; man++) {
                if (row.isWaiting(man) && (eldest == NONE || get(academy.ages, man) > get(academy.ages, eldest))) {
                    eldest = man;
                }
            }
            return eldest;
        }

        private int greatest(Row row) {
            int greatest = NONE;
            int most = 0;
            for (int man = 0; man < academy.men; man++) {
                int score = get(scores, man);
                if (!row.isWaiting(man) || score < most) {
                    continue;
                }
                greatest = score > most ? man : NONE;
                most = score;
            }
            return greatest;
        }
    }

    /** What would come of the years ahead; the row of now stays as it is. */
    private static final class Foresight {
        // Nobody, or one man more than his number.
        private static final int CHOICES = MOST_MEN + 1;
        // Far above the some 5,500 that three years of sixteen men can need.
        private static final int MOST_TRIES = 1000000;

        private final Academy academy;
        private final Calendar calendar;
        private final Row now;
        private final Row trial = new Row();
        private final Row[] stages = new Row[MOST_PRAISED + 1];
        private final int[] outcomes = new int[CHOICES * CHOICES];
        private final int[] marked = new int[MOST_CHAIRS + 1];
        private final int[] choices = new int[MOST_PRAISED];
        private int fewest;
        private int firstWay;
        int fewestSat;
        int mostSat;
        int sittings;

        Foresight(Academy academy, Calendar calendar, Row now) {
            this.academy = academy;
            this.calendar = calendar;
            this.now = now;
            for (int i = 0; i < stages.length; i++) {
                stages[i] = new Row();
            }
        }

        int nextTaken() {
            trial.copy(now);
            return calendar.pass(trial);
        }

        int behind(int years, int what) {
            trial.copy(now);
            for (int i = 0; i < years; i++) {
                calendar.pass(trial);
            }
            switch (what) {
                case 0: return trial.last();
                case 1: return trial.sat;
                default: return trial.voids - now.voids;
            }
        }

        /** The year in which a man is taken in; of NONE: the first that is void. */
        int yearOfEntry(int man) {
            trial.copy(now);
            for (int i = 0; i < YEARS_ON; i++) {
                if (calendar.pass(trial) == man) {
                    return trial.year - 1;
                }
            }
            return NONE;
        }

        int yearsLeft(int man) {
            trial.copy(now);
            for (int years = 0; years <= YEARS_ON; years++) {
                if (get(trial.state, man) != SITS) {
                    return years;
                }
                calendar.pass(trial);
            }
            return NONE;
        }

        int heirOf(int man) {
            if (get(now.state, man) != SITS) {
                return NONE;
            }
            trial.copy(now);
            calendar.kill(trial, man);
            for (int i = 0; i < YEARS_ON; i++) {
                int taken = calendar.pass(trial);
                if (taken != NONE) {
                    return taken;
                }
            }
            return NONE;
        }

        int leavingWith(int man) {
            trial.copy(now);
            calendar.kill(trial, man);
            int bits = 0;
            for (int other = 0; other < academy.men; other++) {
                if (get(trial.state, other) == LEFT && get(now.state, other) == SITS) {
                    bits |= 1 << other;
                }
            }
            return bits;
        }

        int rankOf(int man) {
            int own = calendar.scoreOf(now, man);
            int above = 0;
            for (int other = 0; other < academy.men; other++) {
                if (now.isWaiting(other) && calendar.scoreOf(now, other) > own) {
                    above++;
                }
            }
            return above;
        }

        int leadOfGreatest() {
            int found = 0;
            int first = 0;
            int second = 0;
            for (int man = 0; man < academy.men; man++) {
                if (!now.isWaiting(man)) {
                    continue;
                }
                int score = calendar.scoreOf(now, man);
                if (found == 0 || score > first) {
                    second = first;
                    first = score;
                } else if (found == 1 || score > second) {
                    second = score;
                }
                found++;
            }
            return found < 2 ? first : first - second;
        }

        /** This year's scores behind its deaths, for trying more praise on them. */
        private void scoreThisYear() {
            trial.copy(now);
            calendar.tellDeaths(trial);
            calendar.scoreAll(trial);
        }

        private void raise(int man, int by) {
            set(calendar.scores, man, get(calendar.scores, man) + by);
        }

        int praiseWanted(int man) {
            if (!now.isWaiting(man)) {
                return NONE;
            }
            scoreThisYear();
            for (int by = 0; by <= MOST_PRAISE; by++) {
                if (calendar.choose(trial) == man) {
                    return by;
                }
                raise(man, 1);
            }
            return NONE;
        }

        int quietPairs(int man, int other, int by, int what) {
            scoreThisYear();
            for (int one = 0; one < CHOICES; one++) {
                for (int two = 0; two < CHOICES; two++) {
                    raise(one - 1, by);
                    raise(two - 1, by);
                    set(outcomes, one * CHOICES + two, calendar.choose(trial));
                    raise(one - 1, -by);
                    raise(two - 1, -by);
                }
            }
            int quiet = 0;
            int first = NONE;
            for (int one = 0; one < CHOICES; one++) {
                for (int two = 0; two < CHOICES; two++) {
                    if (isOpen(one) && isOpen(two) && isQuiet(one, two, man, other)) {
                        first = quiet == 0 ? 100 * one + two : first;
                        quiet++;
                    }
                }
            }
            return what == 0 ? quiet : first;
        }

        /** Whether a patron may choose so: nobody, or one who is waiting by now. */
        private boolean isOpen(int choice) {
            return choice == 0 || choice <= academy.men && now.isWaiting(choice - 1);
        }

        private boolean isQuiet(int one, int two, int man, int other) {
            int outcome = get(outcomes, one * CHOICES + two);
            for (int choice = 0; choice < CHOICES; choice++) {
                if (!isOpen(choice)) {
                    continue;
                }
                if (outcome != man && get(outcomes, choice * CHOICES + two) == man) {
                    return false;
                }
                if (outcome != other && get(outcomes, one * CHOICES + choice) == other) {
                    return false;
                }
            }
            return true;
        }

        int waysToPraise(int man, int years, int by, int what) {
            fewest = years + 1;
            firstWay = NONE;
            stages[0].copy(now);
            set(choices, 0, NONE);
            int stage = 0;
            for (int i = 0; i < MOST_TRIES && stage >= 0; i++) {
                int choice = get(choices, stage) + 1;
                set(choices, stage, choice);
                if (choice > academy.men) {
                    stage--;
                } else if (isWorthTrying(stage)) {
                    stage = tryChoice(stage, man, years, by);
                }
            }
            if (fewest > years) {
                return NONE;
            }
            return what == 0 ? fewest : firstWay;
        }

        /** A way that is no cheaper comes behind the one that was found. */
        private boolean isWorthTrying(int stage) {
            int choice = get(choices, stage);
            if (stage < 0 || stage >= stages.length || praisedTill(stage) >= fewest) {
                return false;
            }
            return choice == 0 || stages[stage].isWaiting(choice - 1);
        }

        private int praisedTill(int stage) {
            int praised = 0;
            for (int i = 0; i <= stage; i++) {
                praised += get(choices, i) > 0 ? 1 : 0;
            }
            return praised;
        }

        /** Lets the stage's year go by; the stage at which the search goes on. */
        private int tryChoice(int stage, int man, int years, int by) {
            if (stage < 0 || stage + 1 >= stages.length) {
                return NONE;
            }
            Row row = stages[stage + 1];
            row.copy(stages[stage]);
            if (get(choices, stage) > 0) {
                row.praiseMore(get(choices, stage) - 1, by);
            }
            calendar.tellDeaths(row);
            if (calendar.settle(row) == man) {
                fewest = praisedTill(stage);
                firstWay = wayTill(stage, years);
                return stage;
            }
            if (stage + 1 >= years) {
                return stage;
            }
            set(choices, stage + 1, NONE);
            return stage + 1;
        }

        /** The choices as digits, with nobody in the years that are left. */
        private int wayTill(int stage, int years) {
            int way = 0;
            for (int i = 0; i < years; i++) {
                way = way * 100 + (i <= stage ? get(choices, i) : 0);
            }
            return way;
        }

        int fateOf(int seed, int q, int n, int what) {
            playFate(seed, q, n);
            switch (what) {
                case 0: return trial.sat;
                case 1: return trial.voids - now.voids;
                case 2: return trial.died - now.died;
                default: return trial.last();
            }
        }

        void tryFates(int seed, int many, int q, int n, int man) {
            fewestSat = MOST_CHAIRS;
            mostSat = 0;
            sittings = 0;
            for (int i = 0; i < many; i++) {
                playFate(seed + i, q, n);
                fewestSat = Math.min(fewestSat, trial.sat);
                mostSat = Math.max(mostSat, trial.sat);
                if (get(trial.state, man) == SITS) {
                    sittings++;
                }
            }
        }

        private void playFate(int seed, int q, int n) {
            trial.copy(now);
            int drawn = seed;
            for (int i = 0; i < n; i++) {
                calendar.tellDeaths(trial);
                drawn = drawDeaths(drawn, q);
                calendar.settle(trial);
            }
        }

        private int drawDeaths(int seed, int q) {
            int drawn = seed;
            int dying = 0;
            for (int chair = 0; chair < trial.sat; chair++) {
                drawn = drawn * 1103515245 + 12345;
                if ((drawn >>> 16 & 32767) % 16 < q) {
                    set(marked, dying, trial.onChair(chair));
                    dying++;
                }
            }
            for (int i = 0; i < dying; i++) {
                calendar.kill(trial, get(marked, i));
            }
            return drawn;
        }
    }

    /** What the book tells of beliefs and deaths; always from the first year on, as told. */
    private static final class Records {
        private final Academy academy;
        private final Book book;
        private final Calendar calendar;
        private final Row trial = new Row();
        private final int[] takenIn = new int[LAST_TOLD_YEAR + 1];
        private final int[] sidesSeen = new int[MOST_QUESTIONS];
        int ways;
        int firstWay;

        Records(Academy academy, Book book, Calendar calendar) {
            this.academy = academy;
            this.book = book;
            this.calendar = calendar;
        }

        int rightLines() {
            int last = book.lastYear();
            trial.open(academy);
            for (int year = 1; year <= last; year++) {
                set(takenIn, year, calendar.pass(trial));
            }
            for (int line = 0; line < book.lines; line++) {
                if (get(takenIn, get(book.years, line)) != get(book.men, line)) {
                    return line;
                }
            }
            return book.lines;
        }

        /** Whether all lines are right, with a death more in a year; year 0: without. */
        private boolean holds(int deathYear, int deathMan) {
            int last = book.lastYear();
            trial.open(academy);
            for (int year = 1; year <= last; year++) {
                calendar.tellDeaths(trial);
                if (year == deathYear) {
                    calendar.kill(trial, deathMan);
                }
                if (!book.allows(year, calendar.settle(trial))) {
                    return false;
                }
            }
            return true;
        }

        int deathsThatFit(int year) {
            int bits = holds(0, NONE) ? 1 << MOST_MEN : 0;
            for (int man = 0; man < academy.men; man++) {
                if (holds(year, man)) {
                    bits |= 1 << man;
                }
            }
            return bits;
        }

        void tryBeliefs(int man) {
            ways = 0;
            firstWay = NONE;
            for (int i = 0; i < sidesSeen.length; i++) {
                sidesSeen[i] = 0;
            }
            int own = get(academy.codes, man);
            int code = 0;
            for (int i = 0; i < MOST_WAYS && code != NONE; i++) {
                set(academy.codes, man, code);
                if (holds(0, NONE)) {
                    noteWay(man);
                }
                code = codeBehind(code);
            }
            set(academy.codes, man, own);
        }

        private void noteWay(int man) {
            int digits = 0;
            for (int question = 0; question < academy.questions; question++) {
                int side = academy.sideOf(man, question);
                digits = digits * 10 + side;
                set(sidesSeen, question, get(sidesSeen, question) | 1 << side);
            }
            firstWay = ways == 0 ? digits : firstWay;
            ways++;
        }

        /** The next sides to all questions, the last question's turning first; NONE behind the last of them. */
        private int codeBehind(int code) {
            int turned = code;
            for (int question = academy.questions - 1; question >= 0; question--) {
                int side = turned >> 2 * question & 3;
                if (side + 1 < get(academy.sides, question)) {
                    return turned + (1 << 2 * question);
                }
                turned -= side << 2 * question;
            }
            return NONE;
        }

        int onlySide(int question) {
            switch (get(sidesSeen, question)) {
                case 1: return 0;
                case 2: return 1;
                case 4: return 2;
                default: return NONE;
            }
        }
    }

    /** Who agrees with whom, by now. */
    private static final class Company {
        private final Academy academy;
        private final Row now;
        private final int[] tally = new int[MOST_SIDES];

        Company(Academy academy, Row now) {
            this.academy = academy;
            this.now = now;
        }

        int waitingMen() {
            int waiting = 0;
            for (int man = 0; man < academy.men; man++) {
                if (now.isWaiting(man)) {
                    waiting++;
                }
            }
            return waiting;
        }

        int worstEnemy(int man) {
            int enemy = NONE;
            int most = NONE;
            for (int other = 0; other < academy.men; other++) {
                int differing = academy.differing(man, other);
                if (other != man && now.isAlive(other) && differing > most) {
                    enemy = other;
                    most = differing;
                }
            }
            return enemy;
        }

        /** Of the ring that one comes to: how many are in it, or its least man. */
        int ringFrom(int man, int what) {
            int start = man;
            for (int i = 0; i < MOST_MEN && start != NONE; i++) {
                start = worstEnemy(start);
            }
            if (start == NONE) {
                return what == 0 ? 0 : NONE;
            }
            // So many steps lead into the ring from anywhere.
            int many = 1;
            int least = start;
            int at = worstEnemy(start);
            for (int i = 0; i < MOST_MEN && at != start && at != NONE; i++) {
                many++;
                least = Math.min(least, at);
                at = worstEnemy(at);
            }
            return what == 0 ? many : least;
        }

        int ringedMen() {
            int bits = 0;
            for (int man = 0; man < academy.men; man++) {
                if (comesAgain(man)) {
                    bits |= 1 << man;
                }
            }
            return bits;
        }

        private boolean comesAgain(int man) {
            int at = man;
            for (int i = 0; i < MOST_MEN && at != NONE; i++) {
                at = worstEnemy(at);
                if (at == man) {
                    return true;
                }
            }
            return false;
        }

        private int sideOnChair(int chair, int question) {
            return academy.sideOf(now.onChair(chair), question);
        }

        private void clearTally() {
            for (int side = 0; side < tally.length; side++) {
                tally[side] = 0;
            }
        }

        private void addToTally(int chair, int question) {
            int side = sideOnChair(chair, question);
            set(tally, side, get(tally, side) + 1);
        }

        private int leadingSide() {
            int leading = NONE;
            int most = 0;
            for (int side = 0; side < tally.length; side++) {
                if (tally[side] > most) {
                    leading = side;
                    most = tally[side];
                }
            }
            return leading;
        }

        int voteBy(int question, int k, int r) {
            clearTally();
            if (k > r) {
                for (int chair = r; chair < now.sat; chair += k) {
                    addToTally(chair, question);
                }
            }
            return leadingSide();
        }

        int longestSkip(int question) {
            int longest = 0;
            for (int start = 0; start < now.sat; start++) {
                int length = 1;
                int side = sideOnChair(start, question);
                for (int chair = start + 2; chair < now.sat && sideOnChair(chair, question) == side; chair += 2) {
                    length++;
                }
                longest = Math.max(longest, length);
            }
            return longest;
        }

        int mostMiddling() {
            int middling = NONE;
            int least = 0;
            for (int chair = 0; chair < now.sat; chair++) {
                int sum = 0;
                for (int other = 0; other < now.sat; other++) {
                    sum += academy.differing(now.onChair(chair), now.onChair(other));
                }
                if (middling == NONE || sum < least) {
                    middling = now.onChair(chair);
                    least = sum;
                }
            }
            return middling;
        }

        int fewestToFlip(int question) {
            int leading = voteBy(question, 1, 0);
            int fewest = NONE;
            for (int side = 0; side < tally.length; side++) {
                int leaving = leavingFor(side);
                if (side != leading && tally[side] > 0 && (fewest == NONE || leaving < fewest)) {
                    fewest = leaving;
                }
            }
            return fewest;
        }

        /** How many of the other sides must leave for a side to lead; a lesser side may not even draw level. */
        private int leavingFor(int side) {
            int leaving = 0;
            for (int other = 0; other < tally.length; other++) {
                int bearable = other < side ? get(tally, side) - 1 : get(tally, side);
                if (other != side) {
                    leaving += Math.max(0, tally[other] - bearable);
                }
            }
            return leaving;
        }

        int quorumOf(int question) {
            int all = voteBy(question, 1, 0);
            int quorum = 0;
            clearTally();
            for (int chair = 0; chair < now.sat; chair++) {
                boolean settled = quorum > 0;
                addToTally(chair, question);
                if (leadingSide() != all) {
                    quorum = 0;
                } else if (!settled) {
                    quorum = chair + 1;
                }
            }
            return quorum;
        }

        int alliesOf(int man) {
            int bits = 0;
            for (int other = 0; other < academy.men; other++) {
                if (other != man && academy.believeTheSame(man, other)) {
                    bits |= 1 << other;
                }
            }
            return bits;
        }

        int seamChairs() {
            int bits = 0;
            for (int chair = 1; chair < now.sat; chair++) {
                if (academy.believeTheSame(now.onChair(chair - 1), now.onChair(chair))) {
                    bits |= 1 << chair;
                }
            }
            return bits;
        }

        int mostUnlike(int what) {
            int one = NONE;
            int two = NONE;
            int most = NONE;
            for (int man = 0; man < academy.men; man++) {
                for (int other = man + 1; other < academy.men; other++) {
                    int differing = academy.differing(man, other);
                    if (now.isAlive(man) && now.isAlive(other) && differing > most) {
                        one = man;
                        two = other;
                        most = differing;
                    }
                }
            }
            switch (what) {
                case 0: return one;
                case 1: return two;
                default: return most;
            }
        }

        int unlikeRows() {
            int unlike = 0;
            for (int chair = 0; chair < now.sat; chair++) {
                boolean first = true;
                for (int ahead = 0; ahead < chair; ahead++) {
                    first = first && !academy.believeTheSame(now.onChair(ahead), now.onChair(chair));
                }
                unlike += first ? 1 : 0;
            }
            return unlike;
        }
    }
}
