import java.lang.reflect.Method;
import java.lang.reflect.Modifier;
import java.nio.file.Files;
import java.nio.file.Path;
import java.util.Set;
import java.util.TreeSet;
import java.util.regex.Matcher;
import java.util.regex.Pattern;

/** The run of calls that README.md shows, with the answers that it tells; no call of the face is left out. */
public final class ReadmeTest {
    private static final Pattern CALL = Pattern.compile("cabinet\\.(\\w+)\\(([^)]*)\\);\\s*// (-?\\d+)\\b.*");

    private static int wrong = 0;

    private static void due(String what, boolean holds) {
        if (!holds) {
            wrong++;
            System.out.println("README.md: " + what);
        }
    }

    private static Method named(String name) {
        for (Method m : SieveCabinet.class.getDeclaredMethods()) {
            if (Modifier.isPublic(m.getModifiers()) && m.getName().equals(name)) return m;
        }
        return null;
    }

    private static Object[] arguments(Method m, String text) {
        Class<?>[] types = m.getParameterTypes();
        String[] parts = text.isEmpty() ? new String[0] : text.split(", ");
        if (parts.length != types.length) return null;
        Object[] all = new Object[parts.length];
        for (int i = 0; i < parts.length; i++) {
            if (types[i] == int.class) all[i] = Integer.valueOf(parts[i]);
            else all[i] = Long.valueOf(parts[i]);
        }
        return all;
    }

    private static void ask(SieveCabinet x, String line, Matcher call, Set<String> seen) throws Exception {
        Method m = named(call.group(1));
        Object[] arguments = m == null ? null : arguments(m, call.group(2));
        due("there is no such call: " + line, arguments != null);
        if (arguments == null) return;
        seen.add(m.getName());
        long got = ((Number) m.invoke(x, arguments)).longValue();
        due("the answer is " + got + ": " + line, got == Long.parseLong(call.group(3)));
    }

    public static void main(String[] args) throws Exception {
        SieveCabinet x = new SieveCabinet();
        Set<String> seen = new TreeSet<>();
        for (String line : Files.readAllLines(Path.of("README.md"))) {
            if (!line.startsWith("cabinet.")) continue;
            Matcher call = CALL.matcher(line);
            due("the line tells no answer: " + line, call.matches());
            if (call.matches()) ask(x, line, call, seen);
        }
        for (Method m : SieveCabinet.class.getDeclaredMethods()) {
            if (Modifier.isPublic(m.getModifiers())) due(m.getName() + " is not shown", seen.contains(m.getName()));
        }
        System.out.println(wrong == 0 ? "README.md tells the truth" : wrong + " things in README.md are not as due");
        if (wrong != 0) System.exit(1);
    }
}
