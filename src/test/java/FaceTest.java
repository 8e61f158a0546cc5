import java.lang.reflect.Constructor;
import java.lang.reflect.Field;
import java.lang.reflect.Method;
import java.lang.reflect.Modifier;
import java.util.Arrays;
import java.util.Set;
import java.util.TreeSet;

/** The public face is the document's, whole and with nothing beside it. */
public final class FaceTest {
    private static final Due DUE = new Due();

    public static void main(String[] args) throws ReflectiveOperationException {
        DUE.same("public final class", PileHeirs.class.getModifiers(), Modifier.PUBLIC | Modifier.FINAL);
        constants();
        constructors();
        methods();
        nestedClasses();
        DUE.end("FaceTest");
    }

    private static void sameNames(String what, Set<String> got, String... want) {
        Set<String> due = new TreeSet<>(Arrays.asList(want));
        if (!got.equals(due)) {
            System.out.println(what + ": there are " + got + ", due are " + due);
        }
        DUE.same(what, got.equals(due) ? 1 : 0, 1);
    }

    private static void constants() throws ReflectiveOperationException {
        Set<String> got = new TreeSet<>();
        for (Field f : PileHeirs.class.getDeclaredFields()) {
            if (!Modifier.isPrivate(f.getModifiers())) {
                got.add(Modifier.toString(f.getModifiers()) + " " + f.getType() + " " + f.getName() + " " + f.get(null));
            }
        }
        String head = "public static final int ";
        sameNames("constants", got, head + "UNKNOWN -101", head + "OUTSIDE -102", head + "STATE -103",
                head + "ROOM -104", head + "NONE -1");
    }

    private static void constructors() {
        Set<String> got = new TreeSet<>();
        for (Constructor<?> c : PileHeirs.class.getDeclaredConstructors()) {
            got.add(c.toString());
        }
        sameNames("constructors", got, "public PileHeirs()");
    }

    private static void methods() {
        Set<String> got = new TreeSet<>();
        Set<String> publicNames = new TreeSet<>();
        for (Method m : PileHeirs.class.getDeclaredMethods()) {
            if (!Modifier.isPrivate(m.getModifiers())) {
                got.add(m.toString().replace("PileHeirs.", "").replace("java.lang.", ""));
                publicNames.add(m.getName());
            }
        }
        sameNames("methods", got, "public int timber(int,int,boolean)", "public int pile(int,int,int)",
                "public int put(int,int) throws UnsupportedOperationException",
                "public int take(int) throws NullPointerException", "public int load(int)",
                "public int search(int,int)", "public int free(int)", "public int full(int)",
                "public int move(int,int)", "public int at(int,int)", "public int of(int,int)",
                "public int trace(int)", "public int count(int)");
        for (Method m : PileHeirs.class.getDeclaredMethods()) {
            boolean clash = Modifier.isPrivate(m.getModifiers()) && publicNames.contains(m.getName());
            DUE.same("private method named as a public one: " + m.getName(), clash ? 1 : 0, 0);
        }
    }

    private static void nestedClasses() {
        for (Class<?> c : PileHeirs.class.getDeclaredClasses()) {
            int open = c.getModifiers() & (Modifier.PUBLIC | Modifier.PROTECTED);
            DUE.same("class inside " + c.getName() + " open", open, 0);
            DUE.same("class inside " + c.getName() + " static", Modifier.isStatic(c.getModifiers()) ? 1 : 0, 1);
        }
    }
}
