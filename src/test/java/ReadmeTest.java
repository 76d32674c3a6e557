import java.io.ByteArrayOutputStream;
import java.io.IOException;
import java.lang.reflect.Array;
import java.lang.reflect.Field;
import java.lang.reflect.InvocationTargetException;
import java.lang.reflect.Method;
import java.lang.reflect.Modifier;
import java.nio.file.DirectoryStream;
import java.nio.file.Files;
import java.nio.file.Path;
import java.util.ArrayDeque;
import java.util.ArrayList;
import java.util.Arrays;
import java.util.Collections;
import java.util.Deque;
import java.util.HashMap;
import java.util.IdentityHashMap;
import java.util.List;
import java.util.Map;
import java.util.Set;
import java.util.TreeSet;
import java.util.regex.Matcher;
import java.util.regex.Pattern;
import javax.tools.ToolProvider;

/** What README.md says holds: its example, and the calls, classes, tests and numbers that it names. */
public final class ReadmeTest {
    private static final Path PAGE = Path.of("README.md");
    private static final Path TESTS = Path.of("src", "test", "java");
    private static final Pattern CALL = Pattern.compile("(?:int (\\w+) = )?w\\.(\\w+)\\(([^)]*)\\); +// ([^\\s:]+)(?:[:;].*)?");
    private static final Pattern TYPED = Pattern.compile("type\\(w, \"([^\"]*)\"\\);");
    private static final Pattern QUOTED = Pattern.compile("`(\\w+)`");

    private ReadmeTest() {
    }

    public static void main(String[] args) throws IOException, ReflectiveOperationException {
        String page = Files.readString(PAGE);
        Check.about("README.md, the example");
        List<String> blocks = blocks(page);
        Check.compare("blocks of code", "2", Integer.toString(blocks.size()));
        compiles(blocks);
        answers(blocks.get(0));
        Check.about("README.md, names");
        namesCalls(page);
        namesClasses(page);
        namesTests(page);
        Check.about("README.md, the objects of a warehouse");
        countsObjects(page);
        Check.about(".ci/run");
        Check.compare("executable", "true", Boolean.toString(Files.isExecutable(Path.of(".ci", "run"))));
        Check.end();
    }

    private static List<String> blocks(String page) {
        List<String> blocks = new ArrayList<>();
        Matcher m = Pattern.compile("(?s)```java\n(.*?)```").matcher(page);
        while (m.find()) {
            blocks.add(m.group(1));
        }
        return blocks;
    }

    private static void compiles(List<String> blocks) throws IOException {
        Path folder = Files.createTempDirectory("readme");
        Path file = folder.resolve("Yours.java");
        Files.writeString(file, "final class Yours {\nstatic void all() {\n" + blocks.get(0) + "}\n" + blocks.get(1) + "}\n");
        ByteArrayOutputStream told = new ByteArrayOutputStream();
        int outcome = ToolProvider.getSystemJavaCompiler().run(null, told, told, "-d", folder.toString(), "-cp",
                System.getProperty("java.class.path"), file.toString());
        Check.compare("the compiler, for the example", "0 ", outcome + " " + told);
        try (DirectoryStream<Path> left = Files.newDirectoryStream(folder)) {
            for (Path path : left) {
                Files.delete(path);
            }
        }
        Files.delete(folder);
    }

    private static void answers(String example) throws ReflectiveOperationException {
        BondWarehouse w = new BondWarehouse();
        Map<String, Integer> variables = new HashMap<>();
        for (String line : example.split("\n")) {
            Matcher call = CALL.matcher(line);
            Matcher typed = TYPED.matcher(line);
            if (call.matches()) {
                String got = outcome(w, call.group(2), arguments(call.group(3), variables));
                Check.compare(line, call.group(4), got);
                if (call.group(1) != null) {
                    variables.put(call.group(1), Integer.valueOf(got));
                }
            } else if (typed.matches()) {
                for (char c : typed.group(1).toCharArray()) {
                    w.append(c);
                }
            } else if (!line.isBlank() && !line.startsWith("// ")) {
                Check.compare("a line", "BondWarehouse w = new BondWarehouse();", line);
            }
        }
    }

    private static Object[] arguments(String text, Map<String, Integer> variables) {
        if (text.isEmpty()) {
            return new Object[0];
        }
        String[] parts = text.split(", ");
        Object[] arguments = new Object[parts.length];
        for (int i = 0; i < parts.length; i++) {
            Integer known = variables.get(parts[i]);
            arguments[i] = known != null ? known : Integer.valueOf(parts[i]);
        }
        return arguments;
    }

    private static String outcome(BondWarehouse w, String name, Object[] arguments) throws ReflectiveOperationException {
        Class<?>[] types = new Class<?>[arguments.length];
        Arrays.fill(types, int.class);
        try {
            return String.valueOf(BondWarehouse.class.getMethod(name, types).invoke(w, arguments));
        } catch (InvocationTargetException e) {
            return e.getCause().getClass().getSimpleName();
        }
    }

    private static void namesCalls(String page) {
        Set<String> due = new TreeSet<>();
        for (Method m : BondWarehouse.class.getDeclaredMethods()) {
            if (Modifier.isPublic(m.getModifiers())) {
                due.add(m.getName());
            }
        }
        String table = between(page, "| what for | calls |\n", "\n\n");
        List<String> named = quoted(table);
        Check.compare("calls of the table", due.toString(), new TreeSet<>(named).toString());
        Check.compare("calls of the table, each once", Integer.toString(due.size()), Integer.toString(named.size()));
    }

    private static void namesClasses(String page) {
        Set<String> due = new TreeSet<>(Set.of("BondWarehouse"));
        for (Class<?> c : BondWarehouse.class.getDeclaredClasses()) {
            due.add(c.getSimpleName());
        }
        String layout = between(page, "## How the class is laid out\n", "\n## ");
        Check.compare("classes", due.toString(), new TreeSet<>(quoted(layout)).toString());
    }

    private static void namesTests(String page) throws IOException {
        Set<String> due = new TreeSet<>();
        try (DirectoryStream<Path> files = Files.newDirectoryStream(TESTS, "*Test.java")) {
            for (Path file : files) {
                due.add(file.getFileName().toString().replace(".java", ""));
            }
        }
        Set<String> got = new TreeSet<>();
        for (String row : between(page, "| test | what it looks at |\n", "\n\n").split("\n")) {
            Matcher m = Pattern.compile("\\| `(\\w+)` \\|.*").matcher(row);
            if (m.matches()) {
                got.add(m.group(1));
            }
        }
        Check.compare("tests", due.toString(), got.toString());
    }

    private static String between(String page, String begin, String end) {
        int from = page.indexOf(begin) + begin.length();
        return page.substring(from, page.indexOf(end, from));
    }

    private static List<String> quoted(String text) {
        List<String> words = new ArrayList<>();
        Matcher m = QUOTED.matcher(text);
        while (m.find()) {
            words.add(m.group(1));
        }
        return words;
    }

    private static void countsObjects(String page) throws IllegalAccessException {
        Matcher m = Pattern.compile("some (\\d+) objects, ([\\d,]+) fields").matcher(page);
        Check.compare("numbers told", "true", Boolean.toString(m.find()));
        int[] counted = count(new BondWarehouse());
        Check.compare(counted[0] + " objects are some " + m.group(1), "true", isNear(counted[0], m.group(1)));
        Check.compare(counted[1] + " fields are some " + m.group(2), "true", isNear(counted[1], m.group(2)));
    }

    private static String isNear(int counted, String told) {
        return Boolean.toString(Math.abs(counted - Integer.parseInt(told.replace(",", ""))) * 20 <= counted);
    }

    /** All objects and arrays that can be reached, and their fields and elements. */
    private static int[] count(Object root) throws IllegalAccessException {
        Set<Object> seen = Collections.newSetFromMap(new IdentityHashMap<>());
        Deque<Object> open = new ArrayDeque<>(List.of(root));
        int places = 0;
        while (!open.isEmpty()) {
            Object o = open.pop();
            if (!seen.add(o)) {
                continue;
            }
            if (o.getClass().isArray()) {
                places += Array.getLength(o);
                for (int i = 0; o instanceof Object[] && i < Array.getLength(o); i++) {
                    push(open, Array.get(o, i));
                }
            } else {
                places += pushFields(open, o);
            }
        }
        return new int[] {seen.size(), places};
    }

    private static int pushFields(Deque<Object> open, Object o) throws IllegalAccessException {
        int fields = 0;
        for (Field f : o.getClass().getDeclaredFields()) {
            if (!Modifier.isStatic(f.getModifiers())) {
                fields++;
                f.setAccessible(true);
                push(open, f.getType().isPrimitive() ? null : f.get(o));
            }
        }
        return fields;
    }

    private static void push(Deque<Object> open, Object o) {
        if (o != null) {
            open.push(o);
        }
    }
}
