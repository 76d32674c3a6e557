import java.io.IOException;
import java.lang.reflect.Constructor;
import java.lang.reflect.Field;
import java.lang.reflect.Method;
import java.lang.reflect.Modifier;
import java.nio.file.Files;
import java.nio.file.Path;
import java.util.ArrayList;
import java.util.List;
import java.util.Set;
import java.util.TreeSet;
import java.util.regex.Matcher;
import java.util.regex.Pattern;

/** The class bears the document's face and nothing else, and keeps to what of LANGUAGE.md can be read off it. */
public final class FaceTest {
    private static final Pattern DECLARED = Pattern.compile("^    public (boolean|int|double) (\\w+)\\(([^)]*)\\)([^;]*);$");
    private static final Pattern TAKEN = Pattern.compile("\\b(int|boolean) \\w+");

    private FaceTest() {
    }

    public static void main(String[] args) throws IOException {
        face();
        members();
        source();
        Check.end();
    }

    private static void face() throws IOException {
        Check.about("the face");
        Set<String> due = new TreeSet<>();
        for (String line : Files.readAllLines(Path.of("..", "shared", "DOC.md"))) {
            Matcher m = DECLARED.matcher(line);
            if (m.matches()) {
                due.add(m.group(1) + " " + m.group(2) + "(" + types(m.group(3)) + ")" + m.group(4).replace(" ", ""));
            }
        }
        Set<String> got = new TreeSet<>();
        for (Method m : BondWarehouse.class.getDeclaredMethods()) {
            if (!Modifier.isPrivate(m.getModifiers())) {
                got.add(declared(m));
            }
        }
        Check.compare("promises with methods", "83", Integer.toString(due.size()));
        Check.compare("methods", String.join("\n", due), String.join("\n", got));
        Check.compare("class", "public final", Modifier.toString(BondWarehouse.class.getModifiers()));
        Constructor<?>[] constructors = BondWarehouse.class.getDeclaredConstructors();
        Check.compare("constructors", "1", Integer.toString(constructors.length));
        Check.compare("constructor", "public BondWarehouse()", constructors[0].toString());
    }

    private static String types(String parameters) {
        List<String> types = new ArrayList<>();
        Matcher m = TAKEN.matcher(parameters);
        while (m.find()) {
            types.add(m.group(1));
        }
        return String.join(",", types);
    }

    private static String declared(Method m) {
        List<String> types = new ArrayList<>();
        for (Class<?> type : m.getParameterTypes()) {
            types.add(type.getSimpleName());
        }
        List<String> thrown = new ArrayList<>();
        for (Class<?> type : m.getExceptionTypes()) {
            thrown.add(type.getSimpleName());
        }
        String end = thrown.isEmpty() ? "" : "throws" + String.join(",", thrown);
        return m.getReturnType().getSimpleName() + " " + m.getName() + "(" + String.join(",", types) + ")" + end;
    }

    private static void members() {
        Check.about("rules 1, 5, 11");
        Set<String> publicNames = new TreeSet<>();
        for (Method m : BondWarehouse.class.getDeclaredMethods()) {
            if (Modifier.isPublic(m.getModifiers())) {
                publicNames.add(m.getName());
            }
        }
        List<Class<?>> classes = new ArrayList<>(List.of(BondWarehouse.class.getDeclaredClasses()));
        for (Class<?> c : classes) {
            Check.compare(c.getName() + " is static", "true", Boolean.toString(Modifier.isStatic(c.getModifiers())));
            Check.compare(c.getName() + " is private", "true", Boolean.toString(Modifier.isPrivate(c.getModifiers())));
        }
        classes.add(BondWarehouse.class);
        Check.compare("at most 12 classes", "true", Boolean.toString(classes.size() <= 12));
        for (Class<?> c : classes) {
            int fields = 0;
            for (Field f : c.getDeclaredFields()) {
                boolean constant = Modifier.isStatic(f.getModifiers());
                fields += constant ? 0 : 1;
                boolean open = c == BondWarehouse.class && f.getName().equals("NONE");
                Check.compare(f + " is hidden", Boolean.toString(!open),
                        Boolean.toString(Modifier.isPrivate(f.getModifiers())));
                Check.compare(f + " never changes", "true",
                        Boolean.toString(!constant || Modifier.isFinal(f.getModifiers())));
            }
            Check.compare(c.getName() + " has few fields", "true", Boolean.toString(fields <= 20));
            for (Method m : c.getDeclaredMethods()) {
                Check.compare(m + " takes seven at most", "true", Boolean.toString(m.getParameterCount() <= 7));
                boolean hidden = Modifier.isPrivate(m.getModifiers());
                Check.compare(m + " has a name of its own", "true",
                        Boolean.toString(!hidden || !publicNames.contains(m.getName())));
            }
        }
    }

    private static void source() throws IOException {
        Check.about("rules 2 to 4, 6, 10, 13");
        String text = Files.readString(Path.of("src", "main", "java", "BondWarehouse.java"));
        String code = text.replaceAll("(?s)/\\*.*?\\*/", "").replaceAll("//[^\n]*", "").replaceAll("\"[^\"]*\"", "\"\"");
        String[] forbidden = {"->", "::", "\\bimport\\b", "\\bpackage\\b", "\\btry\\b", "\\bcatch\\b", "\\bfinally\\b",
            "\\bsynchronized\\b", "\\bassert\\b", "\\bprotected\\b", "\\bhashCode\\b", "\\btoString\\b", "Exact\\b",
            "\\bSystem\\b", "\\bThread\\b", "\\bRandom\\b", "\\bvar\\b", "\\brecord\\b", "\"\" *\\+", "\\+ *\"\""};
        for (String pattern : forbidden) {
            Check.compare(pattern, "false", Boolean.toString(Pattern.compile(pattern).matcher(code).find()));
        }
        Matcher thrown = Pattern.compile("throw new (\\w+)\\(\"\"\\)").matcher(code);
        Set<String> names = new TreeSet<>();
        int count = 0;
        while (thrown.find()) {
            names.add(thrown.group(1));
            count++;
        }
        Check.compare("exceptions", "[IllegalArgumentException, IllegalStateException, IndexOutOfBoundsException]",
                names.toString());
        Check.compare("each with a written text", Integer.toString(code.split("\\bthrow\\b", -1).length - 1),
                Integer.toString(count));
    }
}
