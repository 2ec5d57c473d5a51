import java.lang.reflect.Constructor;
import java.lang.reflect.Field;
import java.lang.reflect.Method;
import java.lang.reflect.Modifier;
import java.nio.file.Files;
import java.nio.file.Path;
import java.util.ArrayList;
import java.util.Arrays;
import java.util.List;
import java.util.TreeSet;
import java.util.regex.Matcher;
import java.util.regex.Pattern;

/** The public face of the document, and rules 1, 2, 5 and 11 of LANGUAGE.md as far as the compiled class shows them. */
public final class FaceTest {
    private static final String[] FACE = {"int land(int, int)", "int ground(int, int)", "int set(int, int)",
        "int loss(int, int, int, int, int)", "int pass(int)", "int sender(int, int, int, int, int, int)", "int about(int, int)",
        "int change(int, int, int)", "int on(int, boolean)", "int got(int, int)", "int heard(int)", "long drowns(int)", "int cause(int)",
        "int share(int)", "int fewest(int)", "int part(int, int)", "int best(int, int)", "int proof(int, int)", "int assign(int)",
        "int odds(int, int, int)", "int flow(int, int, int, int, int)", "int hops(int, int, int, int)", "int most(int, int, int)",
        "int listen(int, int, int)", "int spoke(int, int)", "int hidden(int)", "int bid(int, int, int)", "int call()", "int won()",
        "int pays(int)", "int type(int)", "int wipe()", "int fault()", "int may(int, int, int)", "int rule(int, int, int)", "int box(int)",
        "int log(int, int)", "int hear(int)", "int cells(int, int)", "int cell(int, int, int)", "int cheats(int, int, int)",
        "int site(int, int, int, int, int, int)", "int ear(int, int)", "int serves(int)", "int plan(int, int)", "int sheet(int, int, int)",
        "int lose(int)", "int put(int, int, int, long)", "long get(int, int, int)", "int copy(int, int, int, int, int)",
        "int map(int, int)", "int count(int)", "long digest()"};

    public static void main(String[] args) throws Exception {
        asTheDocumentSays();
        constants();
        methods();
        List<Class<?>> all = new ArrayList<>(Arrays.asList(AirParted.class.getDeclaredClasses()));
        for (Class<?> c : all) {
            int m = c.getModifiers();
            Check.holds(c + " is static", Modifier.isStatic(m));
            Check.holds(c + " is not public", !Modifier.isPublic(m) && !Modifier.isProtected(m));
        }
        all.add(AirParted.class);
        Check.holds("at most twelve classes", all.size() <= 12);
        for (Class<?> c : all) {
            members(c);
        }
        Check.end();
    }

    /** The list above is the one of the document's block, no call more and none less. */
    private static void asTheDocumentSays() throws Exception {
        Path source = Path.of(System.getProperty("airparted.source", "src/main/java/AirParted.java")).toAbsolutePath();
        Path root = source.getParent().getParent().getParent().getParent();
        Path document = root.resolve("../shared/DOC.md");
        if (!Files.isReadable(document)) {
            System.out.println("no document beside the project: its face is taken as written here");
            return;
        }
        String text = Files.readString(document);
        TreeSet<String> told = new TreeSet<>();
        Matcher call = Pattern.compile("(?m)^    public (int|long) (\\w+)\\(([^)]*)\\);$").matcher(text);
        while (call.find()) {
            told.add(call.group(1) + " " + call.group(2) + "(" + call.group(3).replaceAll("(\\w+) \\w+", "$1") + ")");
        }
        Check.holds("the document's methods are " + told, told.equals(new TreeSet<>(Arrays.asList(FACE))));
    }

    private static void constants() {
        Check.due("NONE", AirParted.NONE, -1);
        Check.due("BAD", AirParted.BAD, -2);
        Check.due("NOT", AirParted.NOT, -3);
        Check.due("FULL", AirParted.FULL, -4);
        TreeSet<String> open = new TreeSet<>();
        for (Field f : AirParted.class.getDeclaredFields()) {
            if (!Modifier.isPrivate(f.getModifiers())) {
                open.add(f.getName());
            }
        }
        Check.holds("open fields are " + open, open.equals(new TreeSet<>(Arrays.asList("NONE", "BAD", "NOT", "FULL"))));
    }

    private static void methods() {
        int m = AirParted.class.getModifiers();
        Check.holds("the class is public and final", Modifier.isPublic(m) && Modifier.isFinal(m));
        Constructor<?>[] made = AirParted.class.getDeclaredConstructors();
        Check.holds("one constructor", made.length == 1 && Modifier.isPublic(made[0].getModifiers()) && made[0].getParameterCount() == 0);
        TreeSet<String> open = new TreeSet<>();
        for (Method one : AirParted.class.getDeclaredMethods()) {
            if (!Modifier.isPrivate(one.getModifiers())) {
                Check.holds(one + " is public, not static", Modifier.isPublic(one.getModifiers()) && !Modifier.isStatic(one.getModifiers()));
                List<String> types = new ArrayList<>();
                for (Class<?> t : one.getParameterTypes()) {
                    types.add(t.getName());
                }
                open.add(one.getReturnType().getName() + " " + one.getName() + "(" + String.join(", ", types) + ")");
            }
        }
        TreeSet<String> due = new TreeSet<>(Arrays.asList(FACE));
        Check.due("how many methods", open.size(), 53);
        Check.holds("methods are " + open, open.equals(due));
    }

    private static void members(Class<?> c) {
        TreeSet<String> names = new TreeSet<>();
        for (String one : FACE) {
            names.add(one.substring(one.indexOf(' ') + 1, one.indexOf('(')));
        }
        for (Method m : c.getDeclaredMethods()) {
            Check.holds(m + " has at most seven parameters", m.getParameterCount() <= 7);
            boolean open = Modifier.isPublic(m.getModifiers());
            Check.holds(m + " bears no name of the face", open || !names.contains(m.getName()));
        }
        int fields = 0;
        for (Field f : c.getDeclaredFields()) {
            boolean fixed = Modifier.isStatic(f.getModifiers());
            fields += fixed ? 0 : 1;
            Check.holds(f + " is final if static", !fixed || Modifier.isFinal(f.getModifiers()));
        }
        Check.holds(c + " has at most twenty fields", fields <= 20);
    }
}
