import java.lang.reflect.Method;
import java.nio.file.Files;
import java.nio.file.Path;
import java.util.Arrays;
import java.util.regex.Matcher;
import java.util.regex.Pattern;

/** README.md's example: each of its calls must answer what stands behind it. */
public final class ReadmeExample {
    private static final Pattern CALL = Pattern.compile("x\\.(\\w+)\\(([^)]*)\\); +// (-?\\d+)\\b.*");

    private ReadmeExample() {
    }

    public static void main(String[] args) throws Exception {
        ContraryChairs x = new ContraryChairs();
        int calls = 0;
        Check.begin("README.md's example");
        for (String line : Files.readAllLines(Path.of(args[0]))) {
            Matcher call = CALL.matcher(line);
            if (call.matches()) {
                Check.due(line, answer(x, call.group(1), call.group(2)), Integer.parseInt(call.group(3)));
                calls++;
            } else if (line.startsWith("x.")) {
                Check.wrong("a call without its answer: " + line);
            }
        }
        if (calls == 0) {
            Check.wrong("has no calls");
        }
        Check.finish();
    }

    private static int answer(ContraryChairs x, String name, String arguments) throws Exception {
        String[] told = arguments.isEmpty() ? new String[0] : arguments.split(", *");
        Object[] values = new Object[told.length];
        Class<?>[] types = new Class<?>[told.length];
        Arrays.fill(types, int.class);
        for (int i = 0; i < told.length; i++) {
            values[i] = Integer.decode(told[i]);
        }
        Method call = ContraryChairs.class.getMethod(name, types);
        return (Integer) call.invoke(x, values);
    }
}
