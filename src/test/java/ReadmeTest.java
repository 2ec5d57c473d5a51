import java.io.File;
import java.lang.reflect.Method;
import java.nio.file.Files;
import java.nio.file.Path;
import java.util.TreeSet;
import java.util.regex.Matcher;
import java.util.regex.Pattern;

/** The examples of README.md answer as it says, each call of the face is among them, and it names the tests as they are run. */
public final class ReadmeTest {
    private static final Pattern CALL = Pattern.compile("x\\.(\\w+)\\(('.'|[^)']*)\\);");
    private static final Pattern ANSWER = Pattern.compile("// (-?\\d+)(?: \\((\\w+)\\))?: \\S.*");
    private static final TreeSet<String> SHOWN = new TreeSet<>();
    private static AirParted x = null;

    public static void main(String[] args) throws Exception {
        String source = System.getProperty("airparted.source", "src/main/java/AirParted.java");
        Path root = Path.of(source).toAbsolutePath().getParent().getParent().getParent().getParent();
        String readme = Files.readString(root.resolve("README.md"));
        for (String line : readme.split("\n")) {
            if (line.equals("    AirParted x = new AirParted();")) {
                x = new AirParted();
            } else if (line.startsWith("    x.")) {
                example(line.trim());
            }
        }
        for (Method m : AirParted.class.getDeclaredMethods()) {
            if (java.lang.reflect.Modifier.isPublic(m.getModifiers())) {
                Check.holds(m.getName() + "() is shown", SHOWN.contains(m.getName()));
            }
        }
        namesTheTests(root, readme);
        Check.end();
    }

    private static void example(String line) throws Exception {
        int behind = line.indexOf("//");
        Matcher answer = ANSWER.matcher(behind < 0 ? "" : line.substring(behind));
        Check.holds(line + " tells an answer", answer.matches());
        String calls = behind < 0 ? line : line.substring(0, behind);
        Check.holds(line + " is of calls alone", CALL.matcher(calls).replaceAll("").trim().isEmpty());
        Matcher call = CALL.matcher(calls);
        long got = 0;
        while (call.find()) {
            got = ask(call.group(1), call.group(2));
            SHOWN.add(call.group(1));
        }
        Check.due(line, got, Long.parseLong(answer.group(1)));
        if (answer.group(2) != null) {
            Check.due(line + " by name", got, AirParted.class.getField(answer.group(2)).getInt(null));
        }
    }

    private static long ask(String name, String row) throws Exception {
        String[] told = row.isEmpty() ? new String[0] : row.split(", ");
        for (Method m : AirParted.class.getDeclaredMethods()) {
            if (m.getName().equals(name)) {
                Check.due(name + "(" + row + ") has so many numbers", told.length, m.getParameterCount());
                Object[] values = new Object[told.length];
                for (int i = 0; i < told.length; i++) {
                    values[i] = value(m.getParameterTypes()[i], told[i]);
                }
                return ((Number) m.invoke(x, values)).longValue();
            }
        }
        Check.holds(name + " is of the face", false);
        return 0;
    }

    private static Object value(Class<?> type, String text) {
        if (type == boolean.class) {
            return Boolean.valueOf(text);
        }
        if (text.startsWith("'")) {
            return (int) text.charAt(1);
        }
        return type == long.class ? (Object) Long.valueOf(text) : (Object) Integer.valueOf(text);
    }

    private static void namesTheTests(Path root, String readme) {
        Check.holds("README.md names .ci/run", readme.contains("\n    .ci/run\n"));
        Check.holds(".ci/run can be run", Files.isExecutable(root.resolve(".ci/run")));
        TreeSet<String> there = new TreeSet<>();
        for (File file : root.resolve("src/test/java").toFile().listFiles()) {
            if (file.getName().endsWith("Test.java")) {
                there.add(file.getName().substring(0, file.getName().length() - ".java".length()));
            }
        }
        TreeSet<String> named = new TreeSet<>();
        Matcher name = Pattern.compile("`(\\w+Test)`").matcher(readme);
        while (name.find()) {
            named.add(name.group(1));
        }
        Check.holds("README.md names the tests " + there + ": " + named, named.equals(there));
    }
}
