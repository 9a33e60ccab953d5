import java.lang.reflect.Constructor;
import java.lang.reflect.Field;
import java.lang.reflect.Method;
import java.lang.reflect.Modifier;
import java.nio.file.Files;
import java.nio.file.Path;
import java.util.HashMap;
import java.util.HashSet;
import java.util.List;
import java.util.Map;
import java.util.Set;
import java.util.TreeSet;
import java.util.regex.Matcher;
import java.util.regex.Pattern;

/** The rules of LANGUAGE.md that a program can look at: the face, the shape of classes, methods and loops, the words. */
public final class RulesTest {
    private static final List<String> FACE = List.of("int spawn(int, int)", "boolean end(int)", "boolean wake(int)",
        "boolean call(int)", "boolean leave(int)", "boolean aim(int, int)", "boolean copy(int, int, int)",
        "int make(int, int, int, int)", "boolean set(int, int, int, int)", "boolean get(int, int, int, int)",
        "boolean store(int, int, int, int)", "int load(int, int, int)", "int send(int, int, int)",
        "int take(int, int, int, int)", "int mark(int)", "int sweep(int)", "boolean collect()", "int fiber(int, int)",
        "int count(int)", "int page(int)");
    private static final List<String> CONSTANTS = List.of("NIL", "NONE", "FULL", "WAITS");
    private static final List<String> LIBRARY = List.of("ArrayList", "Arrays", "Iterator", "List");
    private static final List<String> ARRAYS = List.of("fill", "copyOf", "copyOfRange");
    private static final String NOT_USED = "\\b(throw|throws|try|catch|finally|synchronized|assert|native|volatile"
        + "|hashCode|random|System\\.(?!arraycopy)\\w+|Thread|package|\\w+Exact)\\b|\\bstatic\\s*\\{|::";
    private static final List<String> LIBRARY_CLASSES = List.of("Arrays", "System", "Math", "Integer", "Long");
    private static final int MOST_LINES = 60;
    private static final int MOST_DEPTH = 8;
    private static final Pattern METHOD = Pattern.compile(
        "(?ms)^( {4}| {8})(?=\\w)(?!(?:if|for|while|switch|do)\\b)[\\w\\[\\] ]*?\\b(\\w+)\\([^()]*\\) \\{\n(.*?)^\\1\\}$");
    private static final Pattern CALLED = Pattern.compile("\\b(\\w+)\\(");
    private static final Pattern LOOP = Pattern.compile("\\b(?:for|while) \\((.*)\\) \\{");

    private static void face() {
        Due.yes("rule 1: the class is public and final", Modifier.isPublic(FiberHeap.class.getModifiers())
            && Modifier.isFinal(FiberHeap.class.getModifiers()));
        Set<String> methods = new TreeSet<>();
        Set<String> publicNames = new HashSet<>();
        for (Method m : FiberHeap.class.getDeclaredMethods()) {
            if (!Modifier.isPrivate(m.getModifiers())) {
                methods.add(signature(m));
                publicNames.add(m.getName());
                Due.yes("rule 1: public and of the object: " + m, m.getModifiers() == Modifier.PUBLIC);
            }
        }
        Due.yes("rule 1: the methods are those of the face: " + methods, methods.equals(new TreeSet<>(FACE)));
        Set<String> fields = new TreeSet<>();
        for (Field f : FiberHeap.class.getDeclaredFields()) {
            if (!Modifier.isPrivate(f.getModifiers())) {
                fields.add(f.getName());
            }
        }
        Due.yes("rule 1: the constants are those of the face: " + fields, fields.equals(new TreeSet<>(CONSTANTS)));
        Constructor<?>[] constructors = FiberHeap.class.getDeclaredConstructors();
        Due.yes("rule 1: one public constructor without parameters", constructors.length == 1
            && constructors[0].getModifiers() == Modifier.PUBLIC && constructors[0].getParameterCount() == 0);
        for (Class<?> c : FiberHeap.class.getDeclaredClasses()) {
            Due.yes("rule 1: static and not public: " + c, Modifier.isStatic(c.getModifiers())
                && (c.getModifiers() & (Modifier.PUBLIC | Modifier.PROTECTED)) == 0);
        }
        for (Class<?> c : allClasses()) {
            for (Method m : c.getDeclaredMethods()) {
                Due.no("rule 1: a private method has a name of the face: " + m,
                    Modifier.isPrivate(m.getModifiers()) && publicNames.contains(m.getName()));
                Due.no("rule 2: a lambda: " + m, m.getName().startsWith("lambda$"));
            }
        }
        Due.is("NIL", FiberHeap.NIL, -1);
        Due.is("NONE", FiberHeap.NONE, -1);
        Due.is("FULL", FiberHeap.FULL, -2);
        Due.is("WAITS", FiberHeap.WAITS, 4);
    }

    private static Set<Class<?>> allClasses() {
        Set<Class<?>> classes = new HashSet<>(List.of(FiberHeap.class.getDeclaredClasses()));
        classes.add(FiberHeap.class);
        return classes;
    }

    private static String signature(Method m) {
        StringBuilder text = new StringBuilder(m.getReturnType().getName()).append(' ').append(m.getName()).append('(');
        for (int i = 0; i < m.getParameterCount(); i++) {
            text.append(i == 0 ? "" : ", ").append(m.getParameterTypes()[i].getName());
        }
        return text.append(')').toString();
    }

    private static void shape() {
        Due.yes("rule 11: at most twelve classes", allClasses().size() <= 12);
        Due.is("rule 2: no local or anonymous class", FiberHeap.class.getNestMembers().length, allClasses().size());
        for (Class<?> c : allClasses()) {
            int fields = 0;
            for (Field f : c.getDeclaredFields()) {
                fields += Modifier.isStatic(f.getModifiers()) ? 0 : 1;
                Due.yes("rule 5: final if static: " + f, !Modifier.isStatic(f.getModifiers())
                    || Modifier.isFinal(f.getModifiers()));
            }
            Due.yes("rule 11: at most twenty fields: " + c, fields <= 20);
            for (Method m : c.getDeclaredMethods()) {
                Due.yes("rule 11: at most seven parameters: " + m, m.getParameterCount() <= 7);
            }
        }
    }

    private static String withoutComments(String source) {
        return source.replaceAll("(?s)/\\*.*?\\*/", "").replaceAll("//[^\n]*", "");
    }

    /** The names of the methods and constructors, each with the names of those that it calls. */
    private static Map<String, Set<String>> callsOf(String code) {
        Map<String, String> bodies = new HashMap<>();
        Matcher method = METHOD.matcher(code);
        while (method.find()) {
            String name = method.group(2);
            Due.no("two methods, one name: their calls can't be told apart: " + name, bodies.containsKey(name));
            bodies.put(name, method.group(3));
            Due.yes("rule 11: short: " + name, method.group().lines().count() <= MOST_LINES);
        }
        Map<String, Set<String>> calls = new HashMap<>();
        for (Map.Entry<String, String> entry : bodies.entrySet()) {
            Set<String> called = new HashSet<>();
            Matcher call = CALLED.matcher(entry.getValue());
            while (call.find()) {
                called.add(call.group(1));
            }
            called.retainAll(bodies.keySet());
            calls.put(entry.getKey(), called);
        }
        return calls;
    }

    private static int depth(String name, Map<String, Set<String>> calls, Set<String> open) {
        if (!open.add(name)) {
            Due.no("rule 8: a recursion: " + name, true);
            return 0;
        }
        int deepest = 0;
        for (String called : calls.get(name)) {
            deepest = Math.max(deepest, depth(called, calls, open));
        }
        open.remove(name);
        return deepest + 1;
    }

    private static void methods(String code) {
        Map<String, Set<String>> calls = callsOf(code);
        int declared = 0;
        for (Class<?> c : allClasses()) {
            declared += c.getDeclaredMethods().length + c.getDeclaredConstructors().length;
        }
        Due.is("every method was looked at", calls.size(), declared);
        for (String name : calls.keySet()) {
            Due.yes("rule 11: at most eight deep: " + name, depth(name, calls, new HashSet<>()) <= MOST_DEPTH);
        }
        Matcher loop = LOOP.matcher(code);
        while (loop.find()) {
            Due.yes("rule 9: a counter against a bound: " + loop.group(), loop.group(1).contains(" < "));
        }
        Due.no("rule 9: a loop of another form", code.contains("do {"));
    }

    private static void libraryClasses(String code) {
        Set<String> known = new HashSet<>(LIBRARY_CLASSES);
        for (Class<?> c : allClasses()) {
            known.add(c.getSimpleName());
        }
        Matcher used = Pattern.compile("\\b([A-Z][a-z]\\w*)\\.\\w+\\(").matcher(code);
        while (used.find()) {
            Due.yes("rule 4: " + used.group(), known.contains(used.group(1)));
        }
    }

    private static void words(String source) {
        String code = withoutComments(source);
        Matcher found = Pattern.compile(NOT_USED).matcher(code);
        while (found.find()) {
            Due.no("not in the language: " + found.group(), true);
        }
        Matcher imported = Pattern.compile("import\\s+([\\w.*]+);").matcher(code);
        while (imported.find()) {
            String name = imported.group(1);
            Due.yes("rule 4: import " + name, name.startsWith("java.util.")
                && LIBRARY.contains(name.substring("java.util.".length())));
        }
        Matcher arrays = Pattern.compile("Arrays\\.(\\w+)").matcher(code);
        while (arrays.find()) {
            Due.yes("rule 4: " + arrays.group(), ARRAYS.contains(arrays.group(1)));
        }
        for (int i = 0; i < source.length(); i++) {
            if (source.charAt(i) > 255) {
                Due.no("rule 3: a character above 255", true);
            }
        }
    }

    public static void main(String[] args) throws Exception {
        face();
        shape();
        String source = Files.readString(Path.of("src/main/java/FiberHeap.java"));
        methods(withoutComments(source));
        libraryClasses(withoutComments(source));
        words(source);
        Due.close();
    }
}
