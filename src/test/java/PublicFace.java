import java.lang.reflect.Field;
import java.lang.reflect.Method;
import java.lang.reflect.Modifier;
import java.nio.file.Files;
import java.nio.file.Path;
import java.util.StringJoiner;
import java.util.TreeSet;
import java.util.regex.Matcher;
import java.util.regex.Pattern;

/** The class has just the constants, constructors and methods of the document's face, with its exceptions. */
public final class PublicFace {
    private PublicFace() {
    }

    public static void main(String[] args) throws Exception {
        String doc = Files.readString(Path.of(args[0]));
        TreeSet<String> due = new TreeSet<>();
        Matcher m = Pattern.compile("(?m)^    (public .*);$").matcher(doc);
        while (m.find()) {
            due.add(m.group(1).replaceAll("(int) \\w+(?=[,)])", "$1"));
        }
        TreeSet<String> got = new TreeSet<>();
        for (Method method : ContraryChairs.class.getDeclaredMethods()) {
            if (Modifier.isPublic(method.getModifiers())) {
                got.add(told(method));
            }
        }
        for (Field field : ContraryChairs.class.getDeclaredFields()) {
            if (Modifier.isPublic(field.getModifiers())) {
                got.add("public static final int " + field.getName() + " = " + field.getInt(null));
            }
        }
        got.add("public " + ContraryChairs.class.getConstructor().getName() + "()");
        Check.begin("the public face");
        Check.due("members in the document", due.size(), 54);
        for (String each : due) {
            if (!got.remove(each)) {
                Check.wrong("is missing: " + each);
            }
        }
        for (String each : got) {
            Check.wrong("is too much: " + each);
        }
        Check.due("constructors", ContraryChairs.class.getDeclaredConstructors().length, 1);
        Check.due("public and final", ContraryChairs.class.getModifiers(), Modifier.PUBLIC | Modifier.FINAL);
        Check.finish();
    }

    private static String told(Method method) {
        StringJoiner parameters = new StringJoiner(", ", "public int " + method.getName() + "(", ")");
        for (Class<?> parameter : method.getParameterTypes()) {
            parameters.add(parameter.getSimpleName());
        }
        StringJoiner exceptions = new StringJoiner(", ", " throws ", "");
        exceptions.setEmptyValue("");
        for (Class<?> exception : method.getExceptionTypes()) {
            exceptions.add(exception.getSimpleName());
        }
        return parameters + exceptions.toString();
    }
}
