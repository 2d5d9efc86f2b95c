import java.lang.reflect.InvocationTargetException;
import java.lang.reflect.Method;
import java.lang.reflect.Modifier;
import java.nio.file.Files;
import java.nio.file.Path;
import java.util.HashMap;
import java.util.Map;
import java.util.Set;
import java.util.TreeMap;
import java.util.TreeSet;
import java.util.regex.Matcher;
import java.util.regex.Pattern;

/** The class answers what README.md shows, and README.md shows every call of the face. */
public final class ReadmeTest {
    private static final Pattern MAKING = Pattern.compile("BookChecks (\\w+) = new BookChecks\\((-?\\d+)L\\);");
    private static final Pattern CALL = Pattern.compile("(\\w+)\\.(\\w+)\\(([^)]*)\\); +// (throws \\w+|[\\w-]+)(: .+)?");
    private static final Pattern ROW = Pattern.compile("\\| `(\\w+)\\(([^)]*)\\)` \\| [^|]+ \\| (throws )?`?(\\w+)`?(: [^|]+)? \\|");
    private static final String NEVER = "never";

    /** What the table says that a refused call answers, by the call's name. */
    private final Map<String, String> refusals = new TreeMap<>();
    private final Map<String, BookChecks> objects = new HashMap<>();
    private final Set<String> shown = new TreeSet<>();
    private final Set<String> shownRefused = new TreeSet<>();

    public static void main(String[] args) throws Exception {
        new ReadmeTest().checkAll();
        Due.end();
    }

    private void checkAll() throws Exception {
        String[] lines = Files.readString(Path.of("README.md")).split("\n");
        for (String line : lines) {
            readRow(line);
        }
        boolean inBlock = false;
        for (String line : lines) {
            if (line.startsWith("```")) {
                inBlock = line.equals("```java");
            } else if (inBlock) {
                checkLine(line);
            }
        }
        everyCallIsShown();
    }

    private void readRow(String line) {
        Matcher row = ROW.matcher(line);
        if (row.matches()) {
            String thrown = row.group(3) == null ? "" : row.group(3);
            refusals.put(row.group(1), thrown + row.group(4));
            int named = row.group(2).isEmpty() ? 0 : row.group(2).split(", ").length;
            Method method = methodOf(row.group(1));
            Due.is("arguments of " + line, named, method == null ? -1 : method.getParameterCount());
        } else {
            Due.is("can be read: " + line, line.startsWith("| `"), false);
        }
    }

    /** Nothing may stand in a block that is not tried, or an answer could be shown that is none. */
    private void checkLine(String line) throws Exception {
        Matcher making = MAKING.matcher(line);
        Matcher call = CALL.matcher(line);
        if (making.matches()) {
            objects.put(making.group(1), new BookChecks(Long.parseLong(making.group(2))));
        } else if (call.matches() && objects.containsKey(call.group(1)) && methodOf(call.group(2)) != null) {
            checkCall(line, call);
        } else {
            Due.is("can be tried: " + line, false, true);
        }
    }

    private void checkCall(String line, Matcher call) throws Exception {
        String name = call.group(2);
        String want = call.group(4);
        String got = answer(objects.get(call.group(1)), methodOf(name), call.group(3));
        Due.is(line + " (answered " + got + ")", got.equals(want.equals("NONE") ? "-1" : want), true);
        shown.add(name);
        if (call.group(1).equals("empty") && !NEVER.equals(refusals.get(name))) {
            shownRefused.add(name);
            Due.is("as in the table: " + line, want.equals(refusals.get(name)), true);
        }
    }

    private void everyCallIsShown() {
        for (Method method : BookChecks.class.getDeclaredMethods()) {
            String name = method.getName();
            if (Modifier.isPublic(method.getModifiers())) {
                Due.is(name + " has a row", refusals.containsKey(name), true);
                Due.is(name + " is shown", shown.contains(name), true);
                boolean never = NEVER.equals(refusals.get(name));
                Due.is(name + " is shown refused", shownRefused.contains(name), !never);
                Due.is(name + " is never refused", never, name.equals("run") || name.equals("same"));
            }
        }
    }

    private static Method methodOf(String name) {
        for (Method method : BookChecks.class.getDeclaredMethods()) {
            if (method.getName().equals(name) && Modifier.isPublic(method.getModifiers())) {
                return method;
            }
        }
        return null;
    }

    private static String answer(BookChecks x, Method method, String written) throws Exception {
        String[] parts = written.isEmpty() ? new String[0] : written.split(", ");
        Class<?>[] types = method.getParameterTypes();
        if (parts.length != types.length) {
            return "nothing, for it takes " + types.length;
        }
        Object[] arguments = new Object[parts.length];
        for (int i = 0; i < parts.length; i++) {
            // As javac does: an int fits where a long is due, a long does not where an int is.
            boolean wide = types[i] == long.class;
            arguments[i] = wide ? (Object) Long.valueOf(parts[i].replace("L", "")) : (Object) Integer.valueOf(parts[i]);
        }
        try {
            return String.valueOf(method.invoke(x, arguments));
        } catch (InvocationTargetException e) {
            return "throws " + e.getCause().getClass().getSimpleName();
        }
    }
}
