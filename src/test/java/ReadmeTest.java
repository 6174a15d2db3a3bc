import java.lang.reflect.Method;
import java.lang.reflect.Modifier;
import java.nio.file.Files;
import java.nio.file.Path;
import java.util.regex.Matcher;
import java.util.regex.Pattern;

/** What README.md shows is so: its calls answer what stands behind them, its text is a land, and it names every call. */
public final class ReadmeTest extends Checks {
    private static final Pattern CALL = Pattern.compile("x\\.(\\w+)\\(([^)]*)\\);\\s*// (-?\\d+|true|false)\\b");
    private static final Pattern LINE = Pattern.compile("(?m)^[a-z]+ [^;`\n]*;");
    private static final int LEAST_CALLS = 10;

    private static String block(String page, String kind) {
        Matcher m = Pattern.compile("```" + kind + "\n(.*?)```", Pattern.DOTALL).matcher(page);
        return m.find() ? m.group(1) : "";
    }

    private static Method methodOf(String name) {
        for (Method m : BoxBearers.class.getDeclaredMethods()) {
            if (Modifier.isPublic(m.getModifiers()) && m.getName().equals(name)) {
                return m;
            }
        }
        throw new IllegalStateException("README.md shows a call that there isn't: " + name);
    }

    private static String answer(BoxBearers x, String name, String args) {
        String[] parts = args.isBlank() ? new String[0] : args.split(",");
        Object[] numbers = new Object[parts.length];
        for (int i = 0; i < parts.length; i++) {
            numbers[i] = Integer.decode(parts[i].trim());
        }
        try {
            return String.valueOf(methodOf(name).invoke(x, numbers));
        } catch (ReflectiveOperationException e) {
            throw new IllegalStateException(name + "(" + args + ") can't be called", e);
        }
    }

    private static void checkCalls(String page) {
        BoxBearers x = new BoxBearers();
        Matcher m = CALL.matcher(block(page, "java"));
        int many = 0;
        while (m.find()) {
            String got = answer(x, m.group(1), m.group(2));
            due(m.group() + " answered " + got, got.equals(m.group(3)), true);
            many++;
        }
        due("some calls are shown", many >= LEAST_CALLS, true);
        due("each call shown has its answer", block(page, "java").split("\nx\\.").length - 1, many);
    }

    private static void checkText(String page) {
        StringBuilder text = new StringBuilder();
        Matcher m = LINE.matcher(block(page, "text"));
        while (m.find()) {
            text.append(m.group()).append('\n');
        }
        BoxBearers x = told(text.toString());
        due("towns", x.count(0), 5);
        due("roads, boxes, bearers", 100 * x.count(1) + 10 * x.count(2) + x.count(3), 112);
        due("talk", x.then(0, 1, 0), 23);
        due("falls", x.fallen(0), 24);
    }

    private static void checkNames(String page) {
        for (Method m : BoxBearers.class.getDeclaredMethods()) {
            if (Modifier.isPublic(m.getModifiers())) {
                due("README.md names " + m.getName(), page.contains("`" + m.getName() + "("), true);
            }
        }
    }

    public static void main(String[] args) throws Exception {
        Path root = args.length > 0 ? Path.of(args[0]).resolve("../../../..") : Path.of(".");
        String page = Files.readString(root.resolve("README.md").normalize());
        checkCalls(page);
        checkText(page);
        checkNames(page);
        end("ReadmeTest", args);
    }
}
