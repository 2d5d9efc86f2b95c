import java.lang.reflect.Constructor;
import java.lang.reflect.Field;
import java.lang.reflect.InvocationTargetException;
import java.lang.reflect.Method;
import java.lang.reflect.Modifier;
import java.util.ArrayList;
import java.util.Arrays;
import java.util.List;
import java.util.Set;
import java.util.TreeSet;

/** The face is the document's and no more, and no call throws but pageAt as the document says. */
public final class FaceTest {
    private static final String[] FACE = {
        "public BookChecks(long)",
        "public boolean BookChecks.risk(int,int,int)",
        "public boolean BookChecks.same(long)",
        "public int BookChecks.act(int,int,int)",
        "public int BookChecks.camera(int,int)",
        "public int BookChecks.draw(int)",
        "public int BookChecks.drawn(int)",
        "public int BookChecks.nowhere(int,int)",
        "public int BookChecks.out(int,int,long)",
        "public int BookChecks.page(int,int,int,long)",
        "public int BookChecks.pair(int)",
        "public int BookChecks.plant(long,int)",
        "public int BookChecks.points(int)",
        "public int BookChecks.repeated(int)",
        "public int BookChecks.run()",
        "public int BookChecks.sale(int,int,int,long)",
        "public int BookChecks.state(int)",
        "public int BookChecks.waits(int,int)",
        "public long BookChecks.balance(int)",
        "public long BookChecks.differs(int)",
        "public long BookChecks.lacks(int)",
        "public long BookChecks.missed(int,int,int)",
        "public long BookChecks.pageAt(int) throws java.lang.IndexOutOfBoundsException",
        "public static final int BookChecks.NONE",
    };
    private static final long[] EDGES = {
        Long.MIN_VALUE, Integer.MIN_VALUE, -1, 0, 1, 2, 7, 8, 9, 10, 29, 30, 31,
        99, 100, 100000, 100001, 1000000000L, 1000000001L, Integer.MAX_VALUE, Long.MAX_VALUE
    };

    public static void main(String[] args) throws Exception {
        faceIsTheDocuments();
        noPrivateMethodBearsAPublicName();
        Due.is("NONE", BookChecks.NONE, -1);
        noCallThrows(new BookChecks(0));
        noCallThrows(full(new BookChecks(Long.MAX_VALUE)));
        Due.end();
    }

    private static void faceIsTheDocuments() {
        Set<String> seen = new TreeSet<>();
        for (Constructor<?> made : BookChecks.class.getDeclaredConstructors()) {
            seen.add(made.toGenericString());
        }
        for (Method method : BookChecks.class.getDeclaredMethods()) {
            addUnlessPrivate(seen, method.getModifiers(), method.toGenericString());
        }
        for (Field field : BookChecks.class.getDeclaredFields()) {
            addUnlessPrivate(seen, field.getModifiers(), field.toGenericString());
        }
        Set<String> due = new TreeSet<>(Arrays.asList(FACE));
        if (!seen.equals(due)) {
            System.out.println("the face is " + seen);
        }
        Due.is("the face", seen.equals(due), true);
        Due.is("public and final", BookChecks.class.getModifiers(), Modifier.PUBLIC | Modifier.FINAL);
    }

    private static void addUnlessPrivate(Set<String> seen, int modifiers, String member) {
        if (!Modifier.isPrivate(modifiers)) {
            seen.add(member);
        }
    }

    private static void noPrivateMethodBearsAPublicName() {
        Set<String> names = new TreeSet<>();
        for (Method method : BookChecks.class.getMethods()) {
            names.add(method.getName());
        }
        List<Class<?>> classes = new ArrayList<>(Arrays.asList(BookChecks.class.getDeclaredClasses()));
        for (Class<?> inside : classes) {
            Due.is(inside + " is static", Modifier.isStatic(inside.getModifiers()), true);
            for (Method method : inside.getDeclaredMethods()) {
                Due.is("name of " + method, names.contains(method.getName()), false);
            }
        }
        for (Method method : BookChecks.class.getDeclaredMethods()) {
            if (Modifier.isPrivate(method.getModifiers())) {
                Due.is("name of " + method, names.contains(method.getName()), false);
            }
        }
    }

    private static BookChecks full(BookChecks x) {
        for (int i = 0; i < 30; i++) {
            x.page(i % 10, i % 4, i % 3, 1000000000L - i);
            x.sale(i % 10, i % 4 + 2, i % 3, 900000000L + i);
        }
        for (int i = 0; i < 64; i++) {
            x.plant(i, i % 10);
            x.out(i % 8, i % 8, 1000000000L);
        }
        x.run();
        x.draw(30);
        return x;
    }

    /** Every call with every mix of edges; the state that they leave is a test of its own. */
    private static void noCallThrows(BookChecks x) throws Exception {
        for (Method method : BookChecks.class.getDeclaredMethods()) {
            if (Modifier.isPublic(method.getModifiers())) {
                allMixes(x, method, new Object[method.getParameterCount()], 0);
            }
        }
    }

    private static void allMixes(BookChecks x, Method method, Object[] arguments, int place) throws Exception {
        if (place == arguments.length) {
            call(x, method, arguments);
            return;
        }
        for (long edge : EDGES) {
            boolean wide = method.getParameterTypes()[place] == long.class;
            if (wide || edge == (int) edge) {
                arguments[place] = wide ? (Object) edge : (Object) (int) edge;
                allMixes(x, method, arguments, place + 1);
            }
        }
    }

    private static void call(BookChecks x, Method method, Object[] arguments) throws Exception {
        Class<?> thrown = null;
        try {
            method.invoke(x, arguments);
        } catch (InvocationTargetException e) {
            thrown = e.getCause().getClass();
        }
        boolean mayThrow = method.getName().equals("pageAt") && thrown == IndexOutOfBoundsException.class;
        Due.is(method + Arrays.toString(arguments) + " throws " + thrown, thrown == null || mayThrow, true);
    }
}
