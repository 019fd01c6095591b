import java.io.IOException;
import java.lang.reflect.Constructor;
import java.lang.reflect.Field;
import java.lang.reflect.Method;
import java.lang.reflect.Modifier;
import java.nio.file.Files;
import java.nio.file.Path;
import java.util.Arrays;
import java.util.Set;
import java.util.TreeSet;

/** The public face, word by word, and what the language's rules forbid or limit in the file. */
public final class FaceTest {
    private static final String[] FACE = {"int span(int, long, int, int)", "int take(int, long)", "int things(int)",
        "long thing(int, int)", "int make(int, int, int, int)", "int solve(int, int)", "int layered(int, int, int)",
        "int put(int, long)", "int putAll(int, int)", "int drop(int, long)", "int lets(int, long)",
        "int falses(int, int)", "long falseOne(int, int, int)", "int missed(int)", "int join(int, int, int)",
        "int fold(int)", "int about(int, int)", "int cell(int, int)", "int layer(int, int, int)",
        "int mark(int, long, int)", "int fewest(int, int, int, int)", "int remove()", "int sieves()"};

    private static int wrong = 0;

    private static void due(String what, boolean holds) {
        if (!holds) {
            wrong++;
            System.out.println("not as due: " + what);
        }
    }

    private static String text(Method m) {
        String parts = String.join(", ", Arrays.stream(m.getParameterTypes()).map(Class::getName).toList());
        return m.getReturnType().getName() + " " + m.getName() + "(" + parts + ")";
    }

    private static void methods() {
        Set<String> want = new TreeSet<>(Arrays.asList(FACE));
        Set<String> names = new TreeSet<>();
        Set<String> got = new TreeSet<>();
        for (Method m : SieveCabinet.class.getDeclaredMethods()) {
            if (Modifier.isPrivate(m.getModifiers())) continue;
            got.add(text(m));
            names.add(m.getName());
            due(m + " is public and of the object", m.getModifiers() == Modifier.PUBLIC);
        }
        due("the methods are " + got, got.equals(want));
        for (Class<?> c : SieveCabinet.class.getDeclaredClasses()) {
            due(c + " is static", Modifier.isStatic(c.getModifiers()));
            due(c + " is not public", !Modifier.isPublic(c.getModifiers()));
        }
        for (Method m : SieveCabinet.class.getDeclaredMethods()) {
            if (Modifier.isPrivate(m.getModifiers())) due(m + " has a name of its own", !names.contains(m.getName()));
        }
    }

    private static void fields() throws IllegalAccessException {
        String[] names = {"NONE", "KIND", "CROWDED", "FULL"};
        int seen = 0;
        for (Field f : SieveCabinet.class.getDeclaredFields()) {
            if (Modifier.isPrivate(f.getModifiers())) continue;
            int i = Arrays.asList(names).indexOf(f.getName());
            due(f + " is one of the face", i >= 0);
            due(f + " is constant", f.getModifiers() == (Modifier.PUBLIC | Modifier.STATIC | Modifier.FINAL));
            due(f + " is " + (-1 - i), i >= 0 && f.getType() == int.class && f.getInt(null) == -1 - i);
            seen++;
        }
        due("there are four constants", seen == 4);
    }

    private static void classItself() {
        due("it is public and final", SieveCabinet.class.getModifiers() == (Modifier.PUBLIC | Modifier.FINAL));
        Constructor<?>[] all = SieveCabinet.class.getDeclaredConstructors();
        due("one public constructor without arguments", all.length == 1
            && all[0].getModifiers() == Modifier.PUBLIC && all[0].getParameterCount() == 0);
    }

    private static void words() throws IOException {
        String source = Files.readString(Path.of("src/main/java/SieveCabinet.java"));
        String code = source.replaceAll("(?s)/\\*.*?\\*/", " ").replaceAll("//[^\n]*", " ");
        for (String word : new String[] {"throw", "throws", "try", "catch", "synchronized", "assert", "Random",
            "Thread", "System\\.(?!arraycopy)", "->", "::", "\\w+Exact", "package"}) {
            due("no " + word + " in the file", !code.matches("(?s).*(?<!\\w)" + word + "(?!\\w).*"));
        }
    }

    /** What the rules on static fields, parameters, fields and classes let be counted. */
    private static void limits() {
        Set<Class<?>> plain = Set.of(int.class, long.class, boolean.class, char.class, String.class);
        Class<?>[] inside = SieveCabinet.class.getDeclaredClasses();
        due("some twelve classes at most", inside.length <= 12);
        for (int i = -1; i < inside.length; i++) {
            Class<?> c = i < 0 ? SieveCabinet.class : inside[i];
            due(c + " has no classes of its own", i < 0 || c.getDeclaredClasses().length == 0);
            int own = 0;
            for (Field f : c.getDeclaredFields()) {
                boolean isStatic = Modifier.isStatic(f.getModifiers());
                if (!isStatic) own++;
                else due(f + " is a constant", Modifier.isFinal(f.getModifiers()) && plain.contains(f.getType()));
            }
            due(c + " has some twenty fields at most", own <= 20);
            for (Method m : c.getDeclaredMethods()) due(m + " takes seven at most", m.getParameterCount() <= 7);
        }
    }

    /** A method's first line stands at 4 or 8 blanks and ends with '{', its last is '}' at as many. */
    private static void lengths() throws IOException {
        String[] lines = Files.readString(Path.of("src/main/java/SieveCabinet.java")).split("\n");
        int methods = 0;
        for (int i = 0; i < lines.length; i++) {
            String blanks = lines[i].replaceAll("\\S.*", "");
            if (!lines[i].matches(" {4}( {4})?\\w.*\\) \\{")) continue;
            int end = i;
            while (end < lines.length && !lines[end].equals(blanks + "}")) end++;
            due("some sixty lines at most: " + lines[i].trim(), end - i < 60);
            methods++;
        }
        due("methods were found", methods > FACE.length);
    }

    public static void main(String[] args) throws Exception {
        classItself();
        methods();
        fields();
        words();
        limits();
        lengths();
        System.out.println(wrong == 0 ? "the face is as due" : wrong + " things are not as due");
        if (wrong != 0) System.exit(1);
    }
}
