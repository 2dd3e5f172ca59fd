import java.lang.reflect.Constructor;
import java.lang.reflect.Field;
import java.lang.reflect.Method;
import java.lang.reflect.Modifier;
import java.nio.file.Files;
import java.nio.file.Path;
import java.util.Set;
import java.util.TreeSet;
import java.util.regex.Matcher;
import java.util.regex.Pattern;

/** What of the language's rules can be seen without running: the face, and words that may not stand in the program. */
public final class LanguageRules {
    private static int wrong;

    private LanguageRules() {
    }

    public static void main(String[] args) throws Exception {
        String source = Files.readString(Path.of(args[0]));
        String code = source.replaceAll("(?s)/\\*.*?\\*/", "").replaceAll("//[^\n]*", "");
        forbid(code, "\\b(catch|try|finally|synchronized|assert|var|native|volatile|instanceof)\\b|System\\.(?!arraycopy)");
        forbid(code, "->|::|\\.\\.\\.|@");
        forbid(code, "\\b(double|float|Object|String\\.format|Collections|Random|Thread|printStackTrace)\\b");
        forbid(code, "throw new (?!NoSuchElementException\\(\\)|IllegalArgumentException\\(\\))");
        forbid(code, "import (?!java\\.util\\.NoSuchElementException;)");
        forbid(code, "\\.(toString|equals|hashCode|getClass)\\(");
        lengths(code);
        face();
        names();
        System.out.println(wrong == 0 ? "the rules that can be seen are kept" : wrong + " rules are broken");
        System.exit(wrong == 0 ? 0 : 1);
    }

    private static void say(String what) {
        wrong++;
        System.out.println(what);
    }

    private static void forbid(String code, String pattern) {
        Matcher m = Pattern.compile(pattern).matcher(code);
        while (m.find()) {
            say("may not stand here: " + m.group() + " near " + code.substring(m.start(), Math.min(code.length(), m.start() + 60)));
        }
    }

    /** Methods of some sixty lines at most: from a line that opens one to the brace at its own depth. */
    private static void lengths(String code) {
        String[] lines = code.split("\n");
        for (int i = 0; i < lines.length; i++) {
            if (!lines[i].matches("( {4}| {8})\\w[^=;]*\\) .*\\{")) {
                continue;
            }
            String indent = lines[i].replaceAll("\\S.*", "");
            int end = i;
            while (end < lines.length && !lines[end].equals(indent + "}")) {
                end++;
            }
            if (end - i > 60) {
                say("a method of " + (end - i) + " lines: " + lines[i].trim());
            }
        }
    }

    private static void face() {
        for (Field f : ContraryChairs.class.getDeclaredFields()) {
            if (!Modifier.isPrivate(f.getModifiers()) && !f.getName().equals("NONE")) {
                say("a field that others see: " + f);
            }
        }
        for (Method m : ContraryChairs.class.getDeclaredMethods()) {
            if (!Modifier.isPrivate(m.getModifiers()) && !Modifier.isPublic(m.getModifiers())) {
                say("a method that others see: " + m);
            }
        }
        Constructor<?>[] made = ContraryChairs.class.getDeclaredConstructors();
        if (made.length != 1 || !Modifier.isPublic(made[0].getModifiers())) {
            say("one public constructor is due");
        }
        Class<?>[] inside = ContraryChairs.class.getDeclaredClasses();
        if (inside.length > 11) {
            say(inside.length + " classes inside");
        }
        for (Class<?> c : inside) {
            if (!Modifier.isStatic(c.getModifiers()) || Modifier.isPublic(c.getModifiers())) {
                say("not private or static: " + c);
            }
            fields(c);
        }
        fields(ContraryChairs.class);
    }

    private static void fields(Class<?> c) {
        int own = 0;
        for (Field f : c.getDeclaredFields()) {
            if (!Modifier.isStatic(f.getModifiers())) {
                own++;
            } else if (!Modifier.isFinal(f.getModifiers())) {
                say("a static field that is not final: " + f);
            }
        }
        if (own > 20) {
            say(own + " fields in " + c);
        }
    }

    private static void names() {
        Set<String> taken = new TreeSet<>();
        for (Method m : ContraryChairs.class.getDeclaredMethods()) {
            if (Modifier.isPublic(m.getModifiers())) {
                taken.add(m.getName());
            }
        }
        for (Method m : ContraryChairs.class.getDeclaredMethods()) {
            if (Modifier.isPrivate(m.getModifiers()) && taken.contains(m.getName())) {
                say("a private method with a public one's name: " + m);
            }
        }
        for (Class<?> c : ContraryChairs.class.getDeclaredClasses()) {
            for (Method m : c.getDeclaredMethods()) {
                if (taken.contains(m.getName())) {
                    say("a method with a public one's name: " + m);
                }
            }
        }
    }
}
