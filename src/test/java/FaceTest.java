import java.io.IOException;
import java.lang.reflect.Constructor;
import java.lang.reflect.Field;
import java.lang.reflect.Method;
import java.lang.reflect.Modifier;
import java.nio.charset.StandardCharsets;
import java.nio.file.Files;
import java.nio.file.Path;
import java.util.Arrays;
import java.util.Map;
import java.util.Set;
import java.util.TreeMap;
import java.util.TreeSet;
import java.util.regex.Matcher;
import java.util.regex.Pattern;

/** The public face is the document's, and the source keeps to the rules that can be seen in it. */
public final class FaceTest {
    private static final String[] CALLS = {
        "int vine(int,int,int,int)", "int ofPost(int,int)", "int load(int,int)", "int row(int)",
        "int graft(int,int)", "int day(int,int,int,int,int)", "int far(int,int)", "int way(int,int,int)",
        "int middle(int)", "int number()", "int alike()", "int pairs()", "int loners(int)",
        "int part(int,int)", "int reading(int,int,int)", "int back(int)", "int loadings(int)",
        "int kinds(int)", "long odds(int,int)", "int sheet(int,int,int)", "int lose(int)",
        "int put(int,int,int)", "long cell(int,int,int)", "int copy(int,int,int,int,int)", "int tell(int)",
        "int knock(int)", "int as(int,int)", "int trace()", "int fault()", "int many(int)"
    };
    private static final String[] CONSTANTS = {
        "int UNKNOWN -1", "int OUTSIDE -2", "int STATE -3", "int FULL -4", "int NONE -9",
        "long LOST -9223372036854775808"
    };

    /** What LANGUAGE.md leaves of calls that are no recursion; the class has no recursion at all. */
    private static final int MOST_DEEP = 8;

    public static void main(String[] args) throws Exception {
        face();
        classesInside();
        source(args.length > 0 ? args[0] : "src/main/java/VineRows.java");
        Checks.finish("FaceTest");
    }

    private static void face() throws IllegalAccessException {
        Set<String> calls = new TreeSet<>();
        for (Method m : VineRows.class.getDeclaredMethods()) {
            if (!Modifier.isPrivate(m.getModifiers())) {
                String types = Arrays.toString(m.getParameterTypes()).replace(" ", "");
                calls.add(m.getReturnType() + " " + m.getName() + "(" + types.substring(1, types.length() - 1) + ")");
                Checks.holds(m.getName() + " is public", Modifier.isPublic(m.getModifiers()));
                Checks.holds(m.getName() + " is no static one", !Modifier.isStatic(m.getModifiers()));
            }
        }
        Checks.holds("calls " + calls, calls.equals(new TreeSet<>(Arrays.asList(CALLS))));
        Set<String> constants = new TreeSet<>();
        for (Field f : VineRows.class.getDeclaredFields()) {
            if (!Modifier.isPrivate(f.getModifiers())) {
                constants.add(f.getType() + " " + f.getName() + " " + f.get(null));
                Checks.due(f.getName() + " is public static final", f.getModifiers(),
                    Modifier.PUBLIC | Modifier.STATIC | Modifier.FINAL);
            }
        }
        Checks.holds("constants " + constants, constants.equals(new TreeSet<>(Arrays.asList(CONSTANTS))));
        Constructor<?>[] made = VineRows.class.getDeclaredConstructors();
        Checks.due("constructors", made.length, 1);
        Checks.holds("constructor", Modifier.isPublic(made[0].getModifiers()) && made[0].getParameterCount() == 0);
        Checks.due("class", VineRows.class.getModifiers(), Modifier.PUBLIC | Modifier.FINAL);
        Checks.holds("no package", VineRows.class.getPackageName().isEmpty());
    }

    private static void classesInside() {
        Set<String> names = new TreeSet<>();
        for (String call : CALLS) {
            names.add(call.substring(call.indexOf(' ') + 1, call.indexOf('(')));
        }
        Class<?>[] inside = VineRows.class.getDeclaredClasses();
        Checks.holds("few classes", inside.length < 12);
        int fields = 0;
        for (Class<?> c : inside) {
            Checks.holds(c + " is static", Modifier.isStatic(c.getModifiers()));
            Checks.holds(c + " is not public", !Modifier.isPublic(c.getModifiers()));
            Checks.holds(c + " has few fields", c.getDeclaredFields().length <= 20);
            for (Method m : c.getDeclaredMethods()) {
                Checks.holds(m + " has a name of its own", !names.contains(m.getName()));
                Checks.holds(m + " takes few", m.getParameterCount() <= 7);
            }
            for (Field f : c.getDeclaredFields()) {
                Checks.holds(f + " is not static", !Modifier.isStatic(f.getModifiers()));
            }
        }
        for (Method m : VineRows.class.getDeclaredMethods()) {
            boolean own = Modifier.isPrivate(m.getModifiers());
            Checks.holds(m + " has a name of its own", !own || !names.contains(m.getName()));
            Checks.holds(m + " takes few", m.getParameterCount() <= 7);
        }
        for (Field f : VineRows.class.getDeclaredFields()) {
            boolean still = Modifier.isStatic(f.getModifiers());
            Checks.holds(f + " is final", !still || Modifier.isFinal(f.getModifiers()));
            Checks.holds(f + " is a constant", !still || f.getType() == int.class || f.getType() == long.class);
            fields += still ? 0 : 1;
        }
        Checks.holds("few fields beside constants", fields <= 20);
    }

    private static void source(String path) throws IOException {
        String text = Files.readString(Path.of(path), StandardCharsets.ISO_8859_1);
        for (int i = 0; i < text.length(); i++) {
            if (text.charAt(i) > 126) {
                Checks.holds("sign " + (int) text.charAt(i) + " at " + i, false);
            }
        }
        String code = text.replaceAll("(?s)/\\*.*?\\*/", "").replaceAll("//[^\n]*", "");
        String[] words = {
            "throw", "throws", "try", "catch", "finally", "synchronized", "assert", "import", "package", "Object",
            "equals", "hashCode", "toString", "String", "Thread", "Random", "double", "float", "volatile", "native",
            "protected", "transient"
        };
        for (String word : words) {
            Checks.holds("no " + word, !Pattern.compile("\\b" + word + "\\b").matcher(code).find());
        }
        Checks.holds("no lambda", !code.contains("->") && !code.contains("::"));
        Checks.holds("no static block", !Pattern.compile("static\\s*\\{").matcher(code).find());
        Matcher library = Pattern.compile("\\b(Integer|Long|Math|System|Arrays)\\.(\\w+)").matcher(code);
        Set<String> listed = new TreeSet<>(Arrays.asList(
            "Integer.bitCount", "Math.max", "Math.min", "System.arraycopy", "Long.MIN_VALUE"));
        while (library.find()) {
            Checks.holds(library.group() + " is listed", listed.contains(library.group()));
        }
        String[] lines = code.split("\n");
        methods(lines);
        making(lines);
    }

    private static void methods(String[] lines) {
        Map<String, String> bodies = new TreeMap<>();
        int begun = -1;
        for (int k = 0; k < lines.length; k++) {
            String line = lines[k];
            if (line.matches(" {4}( {4})?[a-z].*\\) \\{") && !line.matches(" *(if|for|while|switch|do)\\b.*")) {
                begun = k;
            }
            if (begun >= 0 && line.matches(" {4}( {4})?\\}") && line.indexOf('}') == indent(lines[begun])) {
                Checks.holds("short: " + lines[begun].trim(), k - begun < 60);
                String name = lines[begun].replaceAll("\\(.*", "").replaceAll(".* ", "");
                String body = String.join("\n", Arrays.copyOfRange(lines, begun + 1, k));
                // Two of one name would have their calls mixed up in what is found below.
                Checks.holds(name + " is the only one of its name", bodies.put(name, body) == null);
                begun = -1;
            }
        }
        Checks.holds("methods end", begun < 0);
        for (String name : bodies.keySet()) {
            Checks.holds(name + " calls at most eight deep", depth(name, bodies, MOST_DEEP) <= MOST_DEEP);
        }
    }

    /** How many calls stand open at once, this one, too; more than most, if one calls itself in the end. */
    private static int depth(String name, Map<String, String> bodies, int most) {
        int deepest = 0;
        Matcher call = Pattern.compile("\\b(\\w+)\\(").matcher(bodies.get(name));
        while (most > 0 && call.find()) {
            if (bodies.containsKey(call.group(1))) {
                deepest = Math.max(deepest, depth(call.group(1), bodies, most - 1));
            }
        }
        return 1 + deepest;
    }

    private static int indent(String line) {
        int k = 0;
        while (line.charAt(k) == ' ') {
            k++;
        }
        return k;
    }

    /** All is made with the object: no call may use up the room that all calls share. */
    private static void making(String[] lines) {
        for (String line : lines) {
            if (line.contains("new ")) {
                boolean field = line.matches(" *(private )?final [^(]* = new .*;");
                Checks.holds("made once: " + line.trim(), field || line.contains("sheets[k] = new Sheet();"));
            }
        }
    }
}
