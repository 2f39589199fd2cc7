import java.lang.reflect.Constructor;
import java.lang.reflect.Field;
import java.lang.reflect.Member;
import java.lang.reflect.Method;
import java.lang.reflect.Modifier;
import java.util.Set;
import java.util.TreeSet;

/** The public face is the document's, and nothing else of the class can be seen from outside. */
public final class FaceTest {
    private static final String[] METHODS = {
        "code/0", "place/0", "point/1", "unit/1", "fresh/0", "lay/2", "share/2", "nothing/1", "sort/1",
        "length/1", "points/1", "at/2", "pointAt/2", "put/3", "turnInto/3", "tell/3", "read/3", "cut/4",
        "join/3", "back/2", "copy/5", "find/3", "compare/3", "change/3", "keep/1", "kept/0", "same/2", "kind/1",
    };
    private static int wrong = 0;

    private static void check(String what, boolean holds) {
        if (!holds) {
            wrong++;
            System.out.println(what);
        }
    }

    private static boolean isPrivate(Member m) {
        return Modifier.isPrivate(m.getModifiers());
    }

    public static void main(String[] args) {
        check("public and final", Modifier.isFinal(CharRows.class.getModifiers())
            && Modifier.isPublic(CharRows.class.getModifiers()));
        Set<String> due = new TreeSet<>(Set.of(METHODS));
        Set<String> seen = new TreeSet<>();
        Set<String> names = new TreeSet<>();
        for (Method m : CharRows.class.getDeclaredMethods()) {
            if (!isPrivate(m)) {
                check(m + " is public, of int, not static", m.getModifiers() == Modifier.PUBLIC
                    && m.getReturnType() == int.class);
                for (Class<?> p : m.getParameterTypes()) {
                    check(m + " takes ints", p == int.class);
                }
                seen.add(m.getName() + "/" + m.getParameterCount());
                names.add(m.getName());
            }
        }
        check("methods " + seen, seen.equals(due));
        for (Method m : CharRows.class.getDeclaredMethods()) {
            check(m + " bears the name of a public one", !isPrivate(m) || !names.contains(m.getName()));
        }
        for (Constructor<?> c : CharRows.class.getDeclaredConstructors()) {
            check(c + " is public, without parameters", Modifier.isPublic(c.getModifiers())
                && c.getParameterCount() == 0);
        }
        for (Field f : CharRows.class.getDeclaredFields()) {
            boolean ofFace = f.getName().equals("NONE") || f.getName().equals("OUTSIDE");
            check(f + " is private", ofFace || isPrivate(f));
            check(f + " is final if static", !Modifier.isStatic(f.getModifiers()) || Modifier.isFinal(f.getModifiers()));
        }
        check("NONE", CharRows.NONE == -1);
        check("OUTSIDE", CharRows.OUTSIDE == -2000000001);
        System.out.println(wrong == 0 ? "the face is as due" : wrong + " faults of the face");
        if (wrong != 0) {
            System.exit(1);
        }
    }
}
