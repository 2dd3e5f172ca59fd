import java.util.ArrayList;
import java.util.HashSet;
import java.util.List;
import java.util.NoSuchElementException;
import java.util.Set;

/**
 * The document once more, for the tests alone: written from its sentences with lists, copies and trials of
 * every case, and sharing no idea with the class but the document's own.
 */
final class Model {
    static final class Fault extends RuntimeException {
        private static final long serialVersionUID = 1;

        final int kind;
        final int place;

        Fault(int kind, int place) {
            this.kind = kind;
            this.place = place;
        }
    }

    static final class Man {
        int age;
        int[] sides;
        String is = "waiting";
        int waited;
        int since = -1;

        Man copy() {
            Man m = new Man();
            m.age = age;
            m.sides = sides.clone();
            m.is = is;
            m.waited = waited;
            m.since = since;
            return m;
        }
    }

    static final class World {
        List<Integer> sides = new ArrayList<>();
        List<Man> men = new ArrayList<>();
        int chairs = 6;
        List<Integer> seats = new ArrayList<>();
        List<int[]> deaths = new ArrayList<>();
        List<int[]> praises = new ArrayList<>();
        List<int[]> asides = new ArrayList<>();
        List<int[]> trials = new ArrayList<>();
        List<Integer> row = new ArrayList<>();
        List<Integer> history = new ArrayList<>();
        int left;

        World copy() {
            World w = new World();
            w.sides = sides;
            for (Man m : men) {
                w.men.add(m.copy());
            }
            w.chairs = chairs;
            w.seats = seats;
            w.deaths = deaths;
            w.praises = praises;
            w.asides = new ArrayList<>(asides);
            w.trials = new ArrayList<>(trials);
            w.row = new ArrayList<>(row);
            w.history = new ArrayList<>(history);
            w.left = left;
            return w;
        }

        int year() {
            return history.size() + 1;
        }

        boolean waiting(int m) {
            return men.get(m).is.equals("waiting");
        }

        boolean alive(int m) {
            return !men.get(m).is.equals("dead");
        }

        int unlike(int a, int b) {
            int n = 0;
            for (int q = 0; q < sides.size(); q++) {
                if (men.get(a).sides[q] != men.get(b).sides[q]) {
                    n++;
                }
            }
            return n;
        }

        int died() {
            int n = 0;
            for (int m = 0; m < men.size(); m++) {
                n += alive(m) ? 0 : 1;
            }
            return n;
        }

        int voids() {
            int n = 0;
            for (int t : history) {
                n += t < 0 ? 1 : 0;
            }
            return n;
        }

        int die(int m) {
            if (!alive(m)) {
                return 0;
            }
            men.get(m).is = "dead";
            int i = row.indexOf(m);
            if (i < 0) {
                return 1;
            }
            Integer ahead = i > 0 ? row.get(i - 1) : null;
            row.remove(i);
            int gone = 1;
            while (ahead != null && i < row.size() && unlike(ahead, row.get(i)) == 0) {
                men.get(row.get(i)).is = "left";
                row.remove(i);
                left++;
                gone++;
            }
            return gone;
        }
    }

    private final List<Integer> tape = new ArrayList<>();
    private World now = new World();
    private World start = new World();
    private List<World> before = new ArrayList<>();
    private List<World> images = new ArrayList<>();
    private static final String USUAL = "differs * 10 + waits";
    private String law = USUAL;
    private List<int[]> book = new ArrayList<>();
    private int faultPlace = -1;
    private int noSuch;
    private int illegal;

    // ---- refusals

    private void known(int... which) {
        for (int m : which) {
            if (m < 0 || m >= now.men.size()) {
                noSuch++;
                throw new NoSuchElementException();
            }
        }
    }

    private void question(int q) {
        if (q < 0 || q >= now.sides.size()) {
            noSuch++;
            throw new NoSuchElementException();
        }
    }

    private void range(int... triples) {
        for (int i = 0; i < triples.length; i += 3) {
            if (triples[i] < triples[i + 1] || triples[i] > triples[i + 2]) {
                illegal++;
                throw new IllegalArgumentException();
            }
        }
    }

    // ---- texts

    /** The tokens of a text one by one: a row of digits, a row of small letters, or one sign. */
    static final class Words {
        final String text;
        int at;

        Words(String text) {
            this.text = text;
        }

        int place() {
            int i = at;
            while (i < text.length() && text.charAt(i) == ' ') {
                i++;
            }
            return i;
        }

        String peek() {
            int i = place();
            if (i == text.length()) {
                return "";
            }
            int end = i;
            while (end < text.length() && kind(text.charAt(end)) == kind(text.charAt(i))) {
                end++;
            }
            return kind(text.charAt(i)) == 's' ? text.substring(i, i + 1) : text.substring(i, end);
        }

        static char kind(char c) {
            return "0123456789".indexOf(c) >= 0 ? 'n' : "abcdefghijklmnopqrstuvwxyz".indexOf(c) >= 0 ? 'w' : 's';
        }

        static boolean isNumber(String token) {
            return !token.isEmpty() && kind(token.charAt(0)) == 'n';
        }

        String take() {
            String t = peek();
            at = place() + t.length();
            return t;
        }

        void expect(String sign) {
            if (!peek().equals(sign)) {
                throw new Fault(1, place());
            }
            take();
        }

        int number(int least, int most) {
            String t = peek();
            if (!isNumber(t)) {
                throw new Fault(1, place());
            }
            java.math.BigInteger v = new java.math.BigInteger(t);
            if (v.bitLength() > 20 || v.intValue() < least || v.intValue() > most) {
                throw new Fault(2, place());
            }
            take();
            return v.intValue();
        }
    }

    private static World parseAcademy(String text) {
        World w = new World();
        Words t = new Words(text);
        boolean chairsTold = false;
        int clauses = 0;
        while (!t.peek().isEmpty()) {
            int place = t.place();
            String word = t.take();
            if (!List.of("question", "man", "seat", "chairs", "dies", "praise").contains(word)) {
                throw new Fault(1, place);
            }
            boolean tooMany = ++clauses > 60
                || word.equals("question") && w.sides.size() == 6
                || word.equals("man") && w.men.size() == 16
                || word.equals("seat") && w.seats.size() == w.chairs
                || word.equals("dies") && w.deaths.size() == 12
                || word.equals("praise") && w.praises.size() == 12;
            if (tooMany) {
                throw new Fault(3, place);
            }
            if (word.equals("question") && !w.men.isEmpty()
                || word.equals("chairs") && (chairsTold || !w.seats.isEmpty())) {
                throw new Fault(4, place);
            }
            if (word.equals("question")) {
                w.sides.add(t.number(2, 3));
            } else if (word.equals("man")) {
                Man m = new Man();
                m.age = t.number(0, 99);
                m.sides = new int[w.sides.size()];
                for (int q = 0; q < m.sides.length; q++) {
                    m.sides[q] = t.number(0, w.sides.get(q) - 1);
                }
                w.men.add(m);
            } else if (word.equals("seat")) {
                int p = t.place();
                int m = t.number(0, w.men.size() - 1);
                if (w.seats.contains(m)) {
                    throw new Fault(2, p);
                }
                w.seats.add(m);
            } else if (word.equals("chairs")) {
                w.chairs = t.number(2, 12);
                chairsTold = true;
            } else if (word.equals("dies")) {
                w.deaths.add(new int[] {t.number(1, 60), t.number(0, w.men.size() - 1)});
            } else {
                w.praises.add(new int[] {t.number(1, 60), t.number(0, w.men.size() - 1), t.number(1, 99)});
            }
            t.expect(";");
        }
        for (int m : w.seats) {
            w.row.add(m);
            w.men.get(m).is = "sits";
            w.men.get(m).since = 0;
        }
        return w;
    }

    private static List<int[]> parseBook(String text, int men) {
        List<int[]> lines = new ArrayList<>();
        Words t = new Words(text);
        while (!t.peek().isEmpty()) {
            int place = t.place();
            int year = t.number(1, 60);
            if (lines.size() == 12) {
                throw new Fault(3, place);
            }
            int man = -1;
            if (t.peek().equals("void")) {
                t.take();
            } else {
                man = t.number(0, men - 1);
            }
            t.expect(";");
            lines.add(new int[] {year, man});
        }
        return lines;
    }

    /** Reads and reckons a law in one go; w null: reads alone. */
    private static final class Reckoner {
        final Words t;
        final World w;
        final int man;

        Reckoner(String text, World w, int man) {
            this.t = new Words(text);
            this.w = w;
            this.man = man;
        }

        int all() {
            int v = e(0);
            if (!t.peek().isEmpty()) {
                throw new Fault(1, t.place());
            }
            return v;
        }

        private int e(int open) {
            int v = t(open);
            while (t.peek().equals("+") || t.peek().equals("-")) {
                v = t.take().equals("+") ? v + t(open) : v - t(open);
            }
            return v;
        }

        private int t(int open) {
            int v = u(open);
            while (t.peek().equals("*") || t.peek().equals("/")) {
                boolean times = t.take().equals("*");
                int u = u(open);
                v = times ? v * u : u == 0 ? 0 : v / u;
            }
            return v;
        }

        private int u(int open) {
            String p = t.peek();
            if (Words.isNumber(p)) {
                return t.number(0, 999);
            }
            if (p.equals("(") || p.equals("least") || p.equals("most")) {
                if (open == 6) {
                    throw new Fault(3, t.place());
                }
                t.take();
                if (p.equals("(")) {
                    int v = e(open + 1);
                    t.expect(")");
                    return v;
                }
                t.expect("[");
                int a = e(open + 1);
                t.expect(",");
                int b = e(open + 1);
                t.expect("]");
                return p.equals("least") == a < b ? a : b;
            }
            int unlike = w == null ? 0 : w.unlike(man, w.row.get(w.row.size() - 1));
            int v;
            switch (p) {
                case "differs": v = unlike; break;
                case "agrees": v = w == null ? 0 : w.sides.size() - unlike; break;
                case "waits": v = w == null ? 0 : w.men.get(man).waited; break;
                case "age": v = w == null ? 0 : w.men.get(man).age + w.history.size(); break;
                case "number": v = man; break;
                case "year": v = w == null ? 0 : w.year(); break;
                case "sat": v = w == null ? 0 : w.row.size(); break;
                default: throw new Fault(1, t.place());
            }
            t.take();
            return v;
        }
    }

    // ---- years

    private int scoreIn(World w, int m) {
        if (w.row.isEmpty()) {
            return 0;
        }
        int s = new Reckoner(law, w, m).all();
        for (List<int[]> told : List.of(w.praises, w.asides, w.trials)) {
            for (int[] p : told) {
                if (p[0] == w.year() && p[1] == m) {
                    s += p[2];
                }
            }
        }
        return s;
    }

    private static void toldDeaths(World w) {
        for (int[] d : w.deaths) {
            if (d[0] == w.year()) {
                w.die(d[1]);
            }
        }
    }

    private int chosen(World w) {
        List<Integer> waiting = new ArrayList<>();
        for (int m = 0; m < w.men.size(); m++) {
            if (w.waiting(m)) {
                waiting.add(m);
            }
        }
        int best = -1;
        if (w.row.isEmpty()) {
            for (int m : waiting) {
                if (best < 0 || w.men.get(m).age > w.men.get(best).age) {
                    best = m;
                }
            }
            return best;
        }
        int[] scores = new int[w.men.size()];
        for (int m : waiting) {
            scores[m] = scoreIn(w, m);
        }
        for (int m : waiting) {
            boolean tops = scores[m] > 0;
            for (int o : waiting) {
                tops &= o == m || scores[o] < scores[m];
            }
            if (tops) {
                best = m;
            }
        }
        return best;
    }

    private int rest(World w) {
        int m = chosen(w);
        if (m >= 0) {
            w.row.add(m);
            w.men.get(m).is = "sits";
            w.men.get(m).since = w.year();
        }
        if (w.row.size() > w.chairs) {
            w.men.get(w.row.remove(0)).is = "left";
            w.left++;
        }
        for (int o = 0; o < w.men.size(); o++) {
            if (w.waiting(o)) {
                w.men.get(o).waited++;
            }
        }
        w.history.add(m);
        return m;
    }

    private int pass(World w) {
        toldDeaths(w);
        return rest(w);
    }

    // ---- the face

    public int feed(int a, int b, int c, int d, int e) {
        if (tape.size() > 580) {
            return -1;
        }
        for (int n : new int[] {a, b, c, d, e}) {
            for (int i = 3; i >= 0; i--) {
                tape.add(n >> 8 * i & 255);
            }
        }
        return tape.size();
    }

    private String cut(int n, int most) {
        range(n, 0, Math.min(most, tape.size()));
        StringBuilder s = new StringBuilder();
        for (int i = 0; i < n; i++) {
            s.append((char) (int) tape.get(i));
        }
        tape.clear();
        faultPlace = -1;
        return s.toString();
    }

    public int academy(int n) {
        String text = cut(n, 600);
        try {
            now = parseAcademy(text);
        } catch (Fault f) {
            faultPlace = f.place;
            return f.kind - 10;
        }
        start = now.copy();
        before.clear();
        images.clear();
        law = USUAL;
        book = new ArrayList<>();
        return now.men.size();
    }

    public int law(int n) {
        String text = cut(n, 150);
        try {
            new Reckoner(text, null, 0).all();
        } catch (Fault f) {
            faultPlace = f.place;
            return f.kind - 10;
        }
        law = text;
        before.clear();
        return 1;
    }

    public int book(int n) {
        String text = cut(n, 150);
        try {
            book = parseBook(text, now.men.size());
        } catch (Fault f) {
            faultPlace = f.place;
            return f.kind - 10;
        }
        return book.size();
    }

    public int fault() {
        return faultPlace;
    }

    public int told(int what) {
        range(what, 0, 8);
        int waiting = 0;
        for (int m = 0; m < now.men.size(); m++) {
            waiting += now.waiting(m) ? 1 : 0;
        }
        return new int[] {now.sides.size(), now.men.size(), now.chairs, now.year(), now.row.size(), waiting,
            now.deaths.size(), now.praises.size(), book.size()}[what];
    }

    public int man(int m, int what) {
        known(m);
        range(what, 0, 4);
        Man x = now.men.get(m);
        return new int[] {x.age + now.history.size(), List.of("waiting", "sits", "left", "dead").indexOf(x.is),
            now.row.indexOf(m), x.waited, x.since}[what];
    }

    public int sides(int q) {
        question(q);
        return now.sides.get(q);
    }

    public int believes(int m, int q) {
        known(m);
        question(q);
        return now.men.get(m).sides[q];
    }

    public int chair(int c) {
        range(c, 0, 11);
        return c < now.row.size() ? now.row.get(c) : -1;
    }

    public int differs(int a, int b) {
        known(a, b);
        return now.unlike(a, b);
    }

    public int score(int m) {
        known(m);
        return scoreIn(now, m);
    }

    public int next() {
        return pass(now.copy());
    }

    public int years(int n) {
        range(n, 1, 60);
        for (int i = 0; i < n; i++) {
            if (now.year() < 200) {
                before.add(now.copy());
                pass(now);
            }
        }
        return now.year();
    }

    public int undo(int n) {
        range(n, 1, 60);
        int undone = 0;
        while (undone < n && !before.isEmpty()) {
            now = before.remove(before.size() - 1);
            undone++;
        }
        return undone;
    }

    public int taken(int year) {
        return year < 1 || year > now.history.size() ? -2 : now.history.get(year - 1);
    }

    public int sums(int what) {
        range(what, 0, 3);
        int v = now.voids();
        return new int[] {v, now.history.size() - v, now.left, now.died()}[what];
    }

    public int die(int m) {
        known(m);
        int gone = now.die(m);
        if (gone > 0) {
            before.clear();
        }
        return gone;
    }

    public int praise(int m, int n) {
        known(m);
        range(n, 1, 99);
        if (!now.waiting(m) || now.asides.size() == 12) {
            return 0;
        }
        now.asides.add(new int[] {now.year(), m, n});
        before.clear();
        return 1;
    }

    public int ahead(int years, int what) {
        range(years, 0, 60, what, 0, 2);
        World w = now.copy();
        int voids = 0;
        for (int i = 0; i < years; i++) {
            voids += pass(w) < 0 ? 1 : 0;
        }
        return new int[] {w.row.isEmpty() ? -1 : w.row.get(w.row.size() - 1), w.row.size(), voids}[what];
    }

    public int when(int m) {
        known(m);
        return firstYear(m);
    }

    private int firstYear(int m) {
        World w = now.copy();
        for (int i = 0; i < 60; i++) {
            int year = w.year();
            if (pass(w) == m) {
                return year;
            }
        }
        return -1;
    }

    public int breaks() {
        return firstYear(-1);
    }

    public int praises(int m, int n, int by, int what) {
        known(m);
        range(n, 1, 3, by, 1, 99, what, 0, 1);
        int count = now.men.size() + 1;
        int bestCost = 99;
        int bestWay = -1;
        int all = 1;
        for (int i = 0; i < n; i++) {
            all *= count;
        }
        for (int way = 0; way < all; way++) {
            int[] digits = new int[n];
            int cost = 0;
            int rest = way;
            int told = 0;
            for (int i = n - 1; i >= 0; i--) {
                digits[i] = rest % count;
                rest /= count;
                cost += digits[i] > 0 ? 1 : 0;
            }
            for (int d : digits) {
                told = told * 100 + d;
            }
            if (cost < bestCost && brings(m, digits, by)) {
                bestCost = cost;
                bestWay = told;
            }
        }
        return bestWay < 0 ? -1 : what == 0 ? bestCost : bestWay;
    }

    private boolean brings(int m, int[] digits, int by) {
        World w = now.copy();
        boolean taken = false;
        for (int d : digits) {
            if (d > 0) {
                if (!w.waiting(d - 1)) {
                    return false;
                }
                w.trials.add(new int[] {w.year(), d - 1, by});
            }
            taken |= pass(w) == m;
        }
        return taken;
    }

    private World asTold() {
        return start.copy();
    }

    private boolean bookRight(World w, int deathYear, int deathMan) {
        int last = 0;
        for (int[] line : book) {
            last = Math.max(last, line[0]);
        }
        for (int y = 1; y <= last; y++) {
            toldDeaths(w);
            if (y == deathYear) {
                w.die(deathMan);
            }
            rest(w);
        }
        for (int[] line : book) {
            if (w.history.get(line[0] - 1) != line[1]) {
                return false;
            }
        }
        return true;
    }

    private List<int[]> ways(int m) {
        List<int[]> good = new ArrayList<>();
        List<int[]> all = new ArrayList<>();
        all.add(new int[0]);
        for (int s : now.sides) {
            List<int[]> longer = new ArrayList<>();
            for (int[] a : all) {
                for (int side = 0; side < s; side++) {
                    int[] b = java.util.Arrays.copyOf(a, a.length + 1);
                    b[a.length] = side;
                    longer.add(b);
                }
            }
            all = longer;
        }
        for (int[] a : all) {
            World w = asTold();
            w.men.get(m).sides = a;
            if (bookRight(w, 0, -1)) {
                good.add(a);
            }
        }
        return good;
    }

    public int beliefs(int m, int what) {
        known(m);
        range(what, 0, 1);
        List<int[]> good = ways(m);
        if (what == 0) {
            return good.size();
        }
        if (good.isEmpty()) {
            return -1;
        }
        int v = 0;
        for (int s : good.get(0)) {
            v = v * 10 + s;
        }
        return v;
    }

    public int sure(int m, int q) {
        known(m);
        question(q);
        Set<Integer> seen = new HashSet<>();
        for (int[] a : ways(m)) {
            seen.add(a[q]);
        }
        return seen.size() == 1 ? seen.iterator().next() : -1;
    }

    public int dead(int year) {
        range(year, 1, 60);
        int bits = bookRight(asTold(), 0, -1) ? 65536 : 0;
        for (int m = 0; m < now.men.size(); m++) {
            bits |= bookRight(asTold(), year, m) ? 1 << m : 0;
        }
        return bits;
    }

    public int right() {
        World w = asTold();
        for (int y = 0; y < 60; y++) {
            pass(w);
        }
        int n = 0;
        for (int[] line : book) {
            if (w.history.get(line[0] - 1) != line[1]) {
                break;
            }
            n++;
        }
        return n;
    }

    public int enemy(int m) {
        known(m);
        return enemyOf(m);
    }

    private int enemyOf(int m) {
        for (int d = 6; d >= 0; d--) {
            for (int o = 0; o < now.men.size(); o++) {
                if (o != m && now.alive(o) && now.unlike(m, o) == d) {
                    return o;
                }
            }
        }
        return -1;
    }

    private List<Integer> ringOf(int m) {
        List<Integer> path = new ArrayList<>();
        int at = m;
        while (at >= 0 && !path.contains(at)) {
            path.add(at);
            at = enemyOf(at);
        }
        return at < 0 ? new ArrayList<>() : path.subList(path.indexOf(at), path.size());
    }

    public int ring(int m, int what) {
        known(m);
        range(what, 0, 1);
        List<Integer> r = ringOf(m);
        if (what == 0) {
            return r.size();
        }
        return r.isEmpty() ? -1 : java.util.Collections.min(r);
    }

    private int voteOf(List<Integer> men, int q) {
        int best = -1;
        int most = 0;
        for (int s = 0; s < 3; s++) {
            int n = 0;
            for (int m : men) {
                n += now.men.get(m).sides[q] == s ? 1 : 0;
            }
            if (n > most) {
                most = n;
                best = s;
            }
        }
        return best;
    }

    public int vote(int q, int k, int r) {
        question(q);
        range(k, 1, 12, r, 0, 11);
        List<Integer> men = new ArrayList<>();
        for (int c = 0; c < now.row.size(); c++) {
            if (c % k == r) {
                men.add(now.row.get(c));
            }
        }
        return voteOf(men, q);
    }

    public int skip(int q) {
        question(q);
        int best = 0;
        for (int odd = 0; odd < 2; odd++) {
            int run = 0;
            int side = -1;
            for (int c = odd; c < now.row.size(); c += 2) {
                int s = now.men.get(now.row.get(c)).sides[q];
                run = s == side ? run + 1 : 1;
                side = s;
                best = Math.max(best, run);
            }
        }
        return best;
    }

    public int middle() {
        int best = -1;
        int least = Integer.MAX_VALUE;
        for (int m : now.row) {
            int sum = 0;
            for (int o : now.row) {
                sum += now.unlike(m, o);
            }
            if (sum < least) {
                least = sum;
                best = m;
            }
        }
        return best;
    }

    public int flip(int q) {
        question(q);
        int n = now.row.size();
        int best = -1;
        for (int keep = 1; keep < 1 << n; keep++) {
            List<Integer> left = new ArrayList<>();
            for (int c = 0; c < n; c++) {
                if ((keep >> c & 1) == 1) {
                    left.add(now.row.get(c));
                }
            }
            int gone = n - left.size();
            if ((best < 0 || gone < best) && voteOf(left, q) != voteOf(now.row, q)) {
                best = gone;
            }
        }
        return best;
    }

    public int patrons(int m, int o, int by, int what) {
        known(m, o);
        if (m == o || !now.waiting(m) || !now.waiting(o)) {
            illegal++;
            throw new IllegalArgumentException();
        }
        range(by, 1, 99, what, 0, 1);
        List<Integer> acts = new ArrayList<>();
        acts.add(-1);
        for (int x = 0; x < now.men.size(); x++) {
            if (now.waiting(x)) {
                acts.add(x);
            }
        }
        int quiet = 0;
        int first = -1;
        for (int a : acts) {
            for (int b : acts) {
                boolean moves = false;
                for (int c : acts) {
                    moves |= outcome(a, b, by) != m && outcome(c, b, by) == m;
                    moves |= outcome(a, b, by) != o && outcome(a, c, by) == o;
                }
                if (!moves) {
                    first = quiet == 0 ? (a + 1) * 100 + b + 1 : first;
                    quiet++;
                }
            }
        }
        return what == 0 ? quiet : first;
    }

    private int outcome(int a, int b, int by) {
        World w = now.copy();
        for (int x : new int[] {a, b}) {
            if (x >= 0) {
                w.trials.add(new int[] {w.year(), x, by});
            }
        }
        return pass(w);
    }

    public int allies(int m) {
        known(m);
        int bits = 0;
        for (int o = 0; o < now.men.size(); o++) {
            bits |= o != m && now.unlike(m, o) == 0 ? 1 << o : 0;
        }
        return bits;
    }

    public int rank(int m) {
        known(m);
        int n = 0;
        for (int o = 0; o < now.men.size(); o++) {
            n += now.waiting(o) && scoreIn(now, o) > scoreIn(now, m) ? 1 : 0;
        }
        return n;
    }

    public int lead() {
        List<Integer> s = new ArrayList<>();
        for (int o = 0; o < now.men.size(); o++) {
            if (now.waiting(o)) {
                s.add(scoreIn(now, o));
            }
        }
        s.sort(java.util.Collections.reverseOrder());
        return s.isEmpty() ? 0 : s.size() == 1 ? s.get(0) : s.get(0) - s.get(1);
    }

    public int wants(int m) {
        known(m);
        for (int by = 0; by <= 99 && now.waiting(m); by++) {
            World w = now.copy();
            w.trials.add(new int[] {w.year(), m, by});
            if (pass(w) == m) {
                return by;
            }
        }
        return -1;
    }

    public int stays(int m) {
        known(m);
        World w = now.copy();
        for (int y = 0; y <= 60; y++) {
            if (!w.row.contains(m)) {
                return y;
            }
            pass(w);
        }
        return -1;
    }

    public int doomed(int m) {
        known(m);
        World w = now.copy();
        w.die(m);
        int bits = 0;
        for (int o : now.row) {
            bits |= o != m && !w.row.contains(o) ? 1 << o : 0;
        }
        return bits;
    }

    public int seams() {
        int bits = 0;
        for (int c = 1; c < now.row.size(); c++) {
            bits |= now.unlike(now.row.get(c - 1), now.row.get(c)) == 0 ? 1 << c : 0;
        }
        return bits;
    }

    public int ringed() {
        int bits = 0;
        for (int m = 0; m < now.men.size(); m++) {
            bits |= now.alive(m) && ringOf(m).contains(m) ? 1 << m : 0;
        }
        return bits;
    }

    public int pair(int what) {
        range(what, 0, 2);
        int[] best = {-1, -1, -1};
        for (int a = 0; a < now.men.size(); a++) {
            for (int b = a + 1; b < now.men.size(); b++) {
                if (now.alive(a) && now.alive(b) && now.unlike(a, b) > best[2]) {
                    best = new int[] {a, b, now.unlike(a, b)};
                }
            }
        }
        return best[what];
    }

    public int quorum(int q) {
        question(q);
        int n = now.row.size();
        int all = voteOf(now.row, q);
        for (int k = 1; k <= n; k++) {
            boolean stays = true;
            for (int j = k; j <= n; j++) {
                stays &= voteOf(now.row.subList(0, j), q) == all;
            }
            if (stays) {
                return k;
            }
        }
        return 0;
    }

    public int kin() {
        Set<String> rows = new HashSet<>();
        for (int m : now.row) {
            rows.add(java.util.Arrays.toString(now.men.get(m).sides));
        }
        return rows.size();
    }

    public int heir(int m) {
        known(m);
        if (!now.row.contains(m)) {
            return -1;
        }
        World w = now.copy();
        w.die(m);
        for (int y = 0; y < 60; y++) {
            int t = pass(w);
            if (t >= 0) {
                return t;
            }
        }
        return -1;
    }

    private World fate(int seed, int q, int n) {
        World w = now.copy();
        long s = seed;
        for (int y = 0; y < n; y++) {
            toldDeaths(w);
            List<Integer> dying = new ArrayList<>();
            for (int m : w.row) {
                s = (s * 1103515245L + 12345L) & 0xffffffffL;
                if ((s >> 16) % 32768 % 16 < q) {
                    dying.add(m);
                }
            }
            for (int m : dying) {
                w.die(m);
            }
            rest(w);
        }
        return w;
    }

    public int fates(int seed, int q, int n, int what) {
        range(q, 0, 16, n, 1, 40, what, 0, 3);
        World w = fate(seed, q, n);
        return new int[] {w.row.size(), w.voids() - now.voids(), w.died() - now.died(),
            w.row.isEmpty() ? -1 : w.row.get(w.row.size() - 1)}[what];
    }

    public int span(int seed, int many, int q, int n, int what, int m) {
        range(many, 1, 20, q, 0, 16, n, 1, 40, what, 0, 2, m, 0, now.men.size() - 1);
        int fewest = 99;
        int most = -1;
        int sits = 0;
        for (int i = 0; i < many; i++) {
            World w = fate(seed + i, q, n);
            fewest = Math.min(fewest, w.row.size());
            most = Math.max(most, w.row.size());
            sits += w.row.contains(m) ? 1 : 0;
        }
        return new int[] {fewest, most, sits}[what];
    }

    public int image() {
        if (images.size() == 3) {
            return -1;
        }
        images.add(now.copy());
        return images.size();
    }

    public int restore() {
        if (images.isEmpty()) {
            return -1;
        }
        now = images.remove(images.size() - 1);
        before.clear();
        return images.size();
    }

    public int status(int what) {
        return what == 0 ? noSuch : what == 1 ? illegal : -1;
    }

    public int count(int what) {
        return what == 0 ? images.size() : what == 1 ? tape.size() : what == 2 ? before.size() : -1;
    }
}
