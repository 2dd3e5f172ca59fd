import java.lang.reflect.InvocationTargetException;
import java.lang.reflect.Method;
import java.util.ArrayList;
import java.util.Comparator;
import java.util.List;

/** Long runs of all calls, made up by a counter of its own, answered by the class and by the model alike. */
public final class ModelRuns {
    private static long seed;
    private static long calls;
    private static int wrong;
    private static final List<String> log = new ArrayList<>();

    private static int draw(int below) {
        seed = seed * 6364136223846793005L + 1442695040888963407L;
        return (int) ((seed >>> 33) % below);
    }

    private static int from(int least, int most) {
        return least + draw(most - least + 1);
    }

    private static boolean once(int in) {
        return draw(in) == 0;
    }

    public static void main(String[] args) throws Exception {
        int runs = args.length > 0 ? Integer.parseInt(args[0]) : 400;
        int first = args.length > 1 ? Integer.parseInt(args[1]) : 1;
        for (int run = first; run < first + runs && wrong < 5; run++) {
            seed = run * 7919L;
            draw(2);
            log.clear();
            run(run);
        }
        System.out.println(calls + " calls, " + wrong + " runs not as due");
        System.exit(wrong == 0 ? 0 : 1);
    }

    private static void run(int run) throws Exception {
        ContraryChairs real = new ContraryChairs();
        Model model = new Model();
        List<Method> face = face();
        int wrongBefore = wrong;
        for (int i = 0; i < 500 && wrong == wrongBefore;) {
            int pick = i == 0 ? 0 : draw(60);
            if (pick == 0) {
                i += text(real, model, "academy", Texts.academy());
            } else if (pick == 1) {
                i += text(real, model, "law", Texts.law());
            } else if (pick <= 3) {
                i += text(real, model, "book", once(3) ? Texts.book() : Texts.seenBook(real));
            } else {
                Method m = face.get(draw(face.size()));
                // What changes much comes less often, so that a state is looked at from all sides.
                boolean rare = List.of("die", "restore", "image", "praise", "years", "undo").contains(m.getName());
                if (!rare || once(3)) {
                    ask(real, model, m.getName(), arguments(m, real));
                    i++;
                }
            }
        }
        if (wrong > wrongBefore) {
            System.out.println("run " + run + ":");
            for (String line : log.subList(Math.max(0, log.size() - 40), log.size())) {
                System.out.println("  " + line);
            }
        }
    }

    private static List<Method> face() {
        List<Method> face = new ArrayList<>();
        for (Method m : ContraryChairs.class.getDeclaredMethods()) {
            if (java.lang.reflect.Modifier.isPublic(m.getModifiers())
                && !List.of("feed", "academy", "law", "book").contains(m.getName())) {
                face.add(m);
            }
        }
        face.sort(Comparator.comparing(Method::getName));
        return face;
    }

    private static Object[] arguments(Method m, ContraryChairs real) {
        Object[] a = new Object[m.getParameterCount()];
        for (int i = 0; i < a.length; i++) {
            a[i] = once(60) ? from(-3, 210) : sensible(m.getName(), i, real);
        }
        return a;
    }

    private static int sensible(String name, int i, ContraryChairs real) {
        int men = real.told(1);
        int man = once(40) ? men : draw(Math.max(1, men));
        int question = once(30) ? real.told(0) : draw(Math.max(1, real.told(0)));
        switch (name) {
            case "told": return from(0, 8);
            case "man": return i == 0 ? man : from(0, 4);
            case "sides": case "skip": case "flip": case "quorum": return question;
            case "believes": case "sure": return i == 0 ? man : question;
            case "chair": return from(0, 11);
            case "years": case "undo": return once(20) ? from(1, 60) : from(1, 4);
            case "taken": return from(-1, real.told(3) + 1);
            case "sums": return from(0, 3);
            case "praise": return i == 0 ? man : from(1, 60);
            case "ahead": return i == 0 ? from(0, 60) : from(0, 2);
            case "praises": return i == 0 ? man : i == 1 ? (men > 9 ? from(1, 2) : from(1, 3))
                : i == 2 ? from(1, 99) : from(0, 1);
            case "beliefs": case "ring": return i == 0 ? man : from(0, 1);
            case "dead": return once(4) ? from(1, 60) : from(1, 6);
            case "vote": return i == 0 ? question : i == 1 ? from(1, 12) : from(0, once(3) ? 11 : 2);
            case "patrons": return i < 2 ? waiting(real, man) : i == 2 ? from(1, 40) : from(0, 1);
            case "pair": return from(0, 2);
            case "fates": return i == 0 ? draw(100000) : i == 1 ? from(0, 6) : i == 2 ? from(1, 20) : from(0, 3);
            case "span": return i == 0 ? Integer.MAX_VALUE - draw(5) : i == 1 ? from(1, 20) : i == 2 ? from(0, 4)
                : i == 3 ? from(1, 20) : i == 4 ? from(0, 2) : man;
            case "status": case "count": return from(-1, 3);
            default: return man;
        }
    }

    private static int waiting(ContraryChairs real, int man) {
        for (int i = 0; i < 8 && man < real.told(1) && real.man(man, 1) != 0; i++) {
            man = draw(real.told(1));
        }
        return man;
    }

    private static int text(ContraryChairs real, Model model, String name, String text) throws Exception {
        int n = 0;
        byte[] bytes = new byte[(text.length() + 19) / 20 * 20];
        for (int i = 0; i < text.length(); i++) {
            bytes[i] = (byte) text.charAt(i);
        }
        for (int i = 0; i < bytes.length; i += 20) {
            Object[] five = new Object[5];
            for (int j = 0; j < 5; j++) {
                five[j] = java.nio.ByteBuffer.wrap(bytes, i + 4 * j, 4).getInt();
            }
            ask(real, model, "feed", five);
            n++;
        }
        log.add(name + " <" + text + ">");
        ask(real, model, name, text.length());
        ask(real, model, "fault");
        return n + 2;
    }

    private static void ask(ContraryChairs real, Model model, String name, Object... arguments) throws Exception {
        calls++;
        String got = answer(real, name, arguments);
        String due = answer(model, name, arguments);
        log.add(name + java.util.Arrays.toString(arguments) + " -> " + got);
        if (!got.equals(due)) {
            wrong++;
            log.add("  due is " + due);
        }
    }

    private static String answer(Object target, String name, Object[] arguments) throws Exception {
        Class<?>[] types = new Class<?>[arguments.length];
        java.util.Arrays.fill(types, int.class);
        try {
            return "" + target.getClass().getDeclaredMethod(name, types).invoke(target, arguments);
        } catch (InvocationTargetException e) {
            return e.getCause().getClass().getName();
        }
    }

    /** Texts that are right for the most part. */
    private static final class Texts {
        static String academy() {
            StringBuilder s = new StringBuilder();
            int questions = once(8) ? 6 : from(0, 4);
            int men = once(6) ? 16 : from(0, 10);
            int[] sides = new int[questions];
            for (int q = 0; q < questions; q++) {
                sides[q] = from(2, 3);
                s.append("question ").append(sides[q]).append(';');
            }
            int chairs = 6;
            if (!once(5)) {
                chairs = once(4) ? from(2, 12) : from(2, 5);
                s.append("chairs ").append(chairs).append(';');
            }
            int told = 0;
            int[] order = new int[men];
            for (int m = 0; m < men; m++) {
                s.append("man ").append(from(0, 99));
                for (int q = 0; q < questions; q++) {
                    s.append(' ').append(draw(sides[q]));
                }
                s.append(';');
                order[m] = m;
            }
            for (int i = men - 1; i > 0; i--) {
                int j = draw(i + 1);
                int x = order[i];
                order[i] = order[j];
                order[j] = x;
            }
            for (int i = 0; i < men && i < chairs && !once(5); i++) {
                s.append("seat ").append(order[i]).append(';');
            }
            for (int i = 0; men > 0 && i < 12 && !once(3); i++) {
                s.append("dies ").append(once(4) ? from(1, 60) : from(1, 8)).append(' ').append(draw(men)).append(';');
            }
            for (int i = 0; men > 0 && i < 12 && !once(4); i++) {
                s.append("praise ").append(from(1, 9)).append(' ').append(draw(men)).append(' ');
                s.append(from(1, 99)).append(';');
            }
            return spoilt(s.toString(), 600);
        }

        static String law() {
            return spoilt(sum(0), 150);
        }

        private static String sum(int open) {
            String s = product(open);
            while (once(2)) {
                s += (once(2) ? " + " : "-") + product(open);
            }
            return s;
        }

        private static String product(int open) {
            String s = unit(open);
            while (once(3)) {
                s += (once(2) ? "*" : " / ") + unit(open);
            }
            return s;
        }

        private static String unit(int open) {
            int pick = draw(12);
            if (pick == 0 && open < 7) {
                return "(" + sum(open + 1) + ")";
            }
            if (pick == 1 && open < 7) {
                return (once(2) ? "least [" : "most[ ") + sum(open + 1) + "," + sum(open + 1) + "]";
            }
            if (pick == 2) {
                return "999 * 999 * 999 * " + draw(1000);
            }
            if (pick < 6) {
                return "" + (once(3) ? draw(1000) : draw(20));
            }
            return new String[] {"differs", "agrees", "waits", "age", "number", "year", "sat"}[draw(7)];
        }

        static String book() {
            StringBuilder s = new StringBuilder();
            for (int i = 0; i < 13 && !once(4); i++) {
                s.append(from(1, 9)).append(once(3) ? " void;" : " " + draw(12) + ";");
            }
            return spoilt(s.toString(), 150);
        }

        /** What really came of some years, as far as they are over, and now and then something else. */
        static String seenBook(ContraryChairs real) {
            StringBuilder s = new StringBuilder();
            for (int i = 0; i < 12 && !once(5); i++) {
                int year = from(1, Math.min(60, Math.max(1, real.told(3) - 1)));
                int man = real.taken(year);
                if (once(15)) {
                    man = draw(Math.max(1, real.told(1)));
                }
                s.append(year).append(man < 0 ? " void;" : " " + man + ";");
            }
            return s.length() > 150 ? "" : s.toString();
        }

        private static String spoilt(String text, int most) {
            StringBuilder s = new StringBuilder(text);
            while (once(4)) {
                int at = draw(s.length() + 1);
                int pick = draw(5);
                if (pick == 0 && at < s.length()) {
                    s.deleteCharAt(at);
                } else if (pick == 1) {
                    s.insert(at, ' ');
                } else if (pick == 2) {
                    s.insert(at, "0123456789;,[]()+-*/xA\0\u00ff".charAt(draw(24)));
                } else if (pick == 3 && once(3)) {
                    s.setLength(at);
                } else if (pick == 4 && text.contains(";")) {
                    String[] clauses = text.split(";");
                    s.insert(s.lastIndexOf(";", at) + 1, clauses[draw(clauses.length)] + ";");
                }
            }
            if (s.length() > most) {
                s.setLength(most);
            }
            return s.toString();
        }
    }
}
