import java.lang.reflect.InvocationTargetException;
import java.lang.reflect.Method;
import java.lang.reflect.Modifier;
import java.util.ArrayList;
import java.util.Arrays;
import java.util.Comparator;
import java.util.List;
import java.util.NoSuchElementException;

/** Calls with arguments of all sizes: what is thrown must be one of the call's own exceptions, thrown by the class itself. */
public final class AnyArguments {
    private static final int[] EDGES = {Integer.MIN_VALUE, Integer.MIN_VALUE + 1, -601, -13, -2, -1, 0, 1, 2, 3, 5, 6, 7,
        11, 12, 13, 15, 16, 17, 20, 21, 39, 40, 41, 59, 60, 61, 98, 99, 100, 149, 150, 151, 199, 200, 201, 600, 601,
        65535, 65536, Integer.MAX_VALUE - 1, Integer.MAX_VALUE};
    private static long seed = 11;
    private static int wrong;

    private AnyArguments() {
    }

    private static int draw(int below) {
        seed = seed * 6364136223846793005L + 1442695040888963407L;
        return (int) ((seed >>> 33) % below);
    }

    public static void main(String[] args) throws Exception {
        List<Method> face = new ArrayList<>();
        for (Method m : ContraryChairs.class.getDeclaredMethods()) {
            if (Modifier.isPublic(m.getModifiers())) {
                face.add(m);
            }
        }
        face.sort(Comparator.comparing(Method::getName));
        if (face.size() != 52) {
            wrong++;
            System.out.println("the face has " + face.size() + " methods, due are 52");
        }
        for (int run = 0; run < 300; run++) {
            ContraryChairs x = new ContraryChairs();
            if (run % 6 != 0) {
                Check.academy(x, full(run));
                Check.law(x, run % 2 == 0 ? "999*999*999*number-999*999*999*99*waits/(sat-2)" : "differs*10+waits");
                Check.book(x, "1 void;60 void;");
            }
            for (int i = 0; i < 430; i++) {
                call(x, face.get(draw(face.size())));
            }
        }
        System.out.println(wrong == 0 ? "nothing else was thrown" : wrong + " calls threw what is not theirs");
        System.exit(wrong == 0 ? 0 : 1);
    }

    private static String full(int run) {
        StringBuilder s = new StringBuilder();
        s.append("question 3;".repeat(run % 7 == 6 ? 6 : run % 4));
        int questions = run % 7 == 6 ? 6 : run % 4;
        s.append("chairs ").append(2 + run % 11).append(';');
        int men = run % 17;
        for (int m = 0; m < men; m++) {
            s.append("man ").append(draw(100));
            for (int q = 0; q < questions; q++) {
                s.append(' ').append(draw(3));
            }
            s.append(';');
        }
        for (int m = 0; m < men && m < 2 + run % 11; m++) {
            s.append("seat ").append(m).append(';');
        }
        for (int i = 0; i < 12 && men > 0; i++) {
            s.append("dies ").append(1 + draw(60)).append(' ').append(draw(men)).append(';');
        }
        return s.toString();
    }

    private static void call(ContraryChairs x, Method m) throws Exception {
        Object[] a = new Object[m.getParameterCount()];
        for (int i = 0; i < a.length; i++) {
            a[i] = draw(3) == 0 ? EDGES[draw(EDGES.length)] : draw(8) == 0 ? draw(1 << 30) * 5 : draw(13);
        }
        try {
            m.invoke(x, a);
        } catch (InvocationTargetException e) {
            Class<?> thrown = e.getCause().getClass();
            boolean known = thrown == IllegalArgumentException.class || thrown == NoSuchElementException.class;
            boolean own = e.getCause().getStackTrace()[0].getClassName().startsWith("ContraryChairs");
            if (!known || !own || !Arrays.asList(m.getExceptionTypes()).contains(thrown)) {
                wrong++;
                System.out.println(m.getName() + Arrays.toString(a) + " threw " + e.getCause());
            }
        }
    }
}
