import java.lang.reflect.Constructor;
import java.lang.reflect.Field;
import java.lang.reflect.Method;
import java.lang.reflect.Modifier;
import java.nio.file.Files;
import java.nio.file.Path;
import java.util.HashSet;
import java.util.List;
import java.util.Set;
import java.util.TreeSet;
import java.util.regex.Matcher;
import java.util.regex.Pattern;

/** The rules of LANGUAGE.md that can be seen from outside: the face, the shape of the classes, words that are not used. */
public final class RulesTest {
    private static final List<String> FACE = List.of("int spawn(int, int)", "boolean end(int)", "boolean wake(int)",
        "boolean call(int)", "boolean leave(int)", "boolean aim(int, int)", "boolean copy(int, int, int)",
        "int make(int, int, int, int)", "boolean set(int, int, int, int)", "boolean get(int, int, int, int)",
        "boolean store(int, int, int, int)", "int load(int, int, int)", "int send(int, int, int)",
        "int take(int, int, int, int)", "int mark(int)", "int sweep(int)", "boolean collect()", "int fiber(int, int)",
        "int count(int)", "int page(int)");
    private static final List<String> CONSTANTS = List.of("NIL", "NONE", "FULL", "WAITS");
    private static final List<String> LIBRARY = List.of("ArrayList", "Arrays", "Iterator", "List");
    private static final List<String> ARRAYS = List.of("fill", "copyOf", "copyOfRange");
    private static final String NOT_USED = "\\b(throw|throws|try|catch|finally|synchronized|assert|native|volatile"
        + "|hashCode|random|System\\.(?!arraycopy)\\w+|Thread|package|\\w+Exact)\\b|\\bstatic\\s*\\{|::";

    private static void face() {
        Due.yes("rule 1: the class is public and final", Modifier.isPublic(FiberHeap.class.getModifiers())
            && Modifier.isFinal(FiberHeap.class.getModifiers()));
        Set<String> methods = new TreeSet<>();
        Set<String> publicNames = new HashSet<>();
        for (Method m : FiberHeap.class.getDeclaredMethods()) {
            if (!Modifier.isPrivate(m.getModifiers())) {
                methods.add(signature(m));
                publicNames.add(m.getName());
                Due.yes("rule 1: public and of the object: " + m, m.getModifiers() == Modifier.PUBLIC);
            }
        }
        Due.yes("rule 1: the methods are those of the face: " + methods, methods.equals(new TreeSet<>(FACE)));
        Set<String> fields = new TreeSet<>();
        for (Field f : FiberHeap.class.getDeclaredFields()) {
            if (!Modifier.isPrivate(f.getModifiers())) {
                fields.add(f.getName());
            }
        }
        Due.yes("rule 1: the constants are those of the face: " + fields, fields.equals(new TreeSet<>(CONSTANTS)));
        Constructor<?>[] constructors = FiberHeap.class.getDeclaredConstructors();
        Due.yes("rule 1: one public constructor without parameters", constructors.length == 1
            && constructors[0].getModifiers() == Modifier.PUBLIC && constructors[0].getParameterCount() == 0);
        for (Class<?> c : FiberHeap.class.getDeclaredClasses()) {
            Due.yes("rule 1: static and not public: " + c, Modifier.isStatic(c.getModifiers())
                && (c.getModifiers() & (Modifier.PUBLIC | Modifier.PROTECTED)) == 0);
        }
        for (Class<?> c : allClasses()) {
            for (Method m : c.getDeclaredMethods()) {
                Due.no("rule 1: a private method has a name of the face: " + m,
                    Modifier.isPrivate(m.getModifiers()) && publicNames.contains(m.getName()));
                Due.no("rule 2: a lambda: " + m, m.getName().startsWith("lambda$"));
            }
        }
        Due.is("NIL", FiberHeap.NIL, -1);
        Due.is("NONE", FiberHeap.NONE, -1);
        Due.is("FULL", FiberHeap.FULL, -2);
        Due.is("WAITS", FiberHeap.WAITS, 4);
    }

    private static Set<Class<?>> allClasses() {
        Set<Class<?>> classes = new HashSet<>(List.of(FiberHeap.class.getDeclaredClasses()));
        classes.add(FiberHeap.class);
        return classes;
    }

    private static String signature(Method m) {
        StringBuilder text = new StringBuilder(m.getReturnType().getName()).append(' ').append(m.getName()).append('(');
        for (int i = 0; i < m.getParameterCount(); i++) {
            text.append(i == 0 ? "" : ", ").append(m.getParameterTypes()[i].getName());
        }
        return text.append(')').toString();
    }

    private static void shape() {
        Due.yes("rule 11: at most twelve classes", allClasses().size() <= 12);
        for (Class<?> c : allClasses()) {
            int fields = 0;
            for (Field f : c.getDeclaredFields()) {
                fields += Modifier.isStatic(f.getModifiers()) ? 0 : 1;
                Due.yes("rule 5: final if static: " + f, !Modifier.isStatic(f.getModifiers())
                    || Modifier.isFinal(f.getModifiers()));
            }
            Due.yes("rule 11: at most twenty fields: " + c, fields <= 20);
            for (Method m : c.getDeclaredMethods()) {
                Due.yes("rule 11: at most seven parameters: " + m, m.getParameterCount() <= 7);
            }
        }
    }

    private static void words(String source) {
        String code = source.replaceAll("(?s)/\\*.*?\\*/", "").replaceAll("//[^\n]*", "");
        Matcher found = Pattern.compile(NOT_USED).matcher(code);
        while (found.find()) {
            Due.no("not in the language: " + found.group(), true);
        }
        Matcher imported = Pattern.compile("import\\s+([\\w.*]+);").matcher(code);
        while (imported.find()) {
            String name = imported.group(1);
            Due.yes("rule 4: import " + name, name.startsWith("java.util.")
                && LIBRARY.contains(name.substring("java.util.".length())));
        }
        Matcher arrays = Pattern.compile("Arrays\\.(\\w+)").matcher(code);
        while (arrays.find()) {
            Due.yes("rule 4: " + arrays.group(), ARRAYS.contains(arrays.group(1)));
        }
        for (int i = 0; i < source.length(); i++) {
            if (source.charAt(i) > 255) {
                Due.no("rule 3: a character above 255", true);
            }
        }
    }

    public static void main(String[] args) throws Exception {
        face();
        shape();
        words(Files.readString(Path.of("src/main/java/FiberHeap.java")));
        Due.close();
    }
}
