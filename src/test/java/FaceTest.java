import java.lang.reflect.Constructor;
import java.lang.reflect.Field;
import java.lang.reflect.Method;
import java.lang.reflect.Modifier;
import java.util.Set;
import java.util.TreeSet;

/** The public face: the document's members and no others. */
final class FaceTest {
    public static void main(String[] args) {
        Due.same("class is public and final",
            PartsFlow.class.getModifiers() & (Modifier.PUBLIC | Modifier.FINAL), Modifier.PUBLIC | Modifier.FINAL);
        Set<String> found = new TreeSet<>();
        for (Constructor<?> c : PartsFlow.class.getDeclaredConstructors()) {
            addIfSeen(found, c.getModifiers(), c.toString());
        }
        for (Method m : PartsFlow.class.getDeclaredMethods()) {
            addIfSeen(found, m.getModifiers(), m.toString());
        }
        for (Field f : PartsFlow.class.getDeclaredFields()) {
            addIfSeen(found, f.getModifiers(), f.toString());
        }
        Set<String> face = new TreeSet<>(Set.of(
            "public PartsFlow()",
            "public int PartsFlow.variable(int,boolean,boolean)",
            "public int PartsFlow.point(int,int,int,int)",
            "public boolean PartsFlow.next(int,int,int)",
            "public boolean PartsFlow.isReached(int)",
            "public int PartsFlow.without(int,int)",
            "public int PartsFlow.having(int,int)",
            "public int PartsFlow.fault(int)",
            "public int PartsFlow.count(int)",
            "public int PartsFlow.clear()"));
        Due.same("members " + found, found.equals(face), true);
        Due.end();
    }

    private static void addIfSeen(Set<String> found, int modifiers, String member) {
        if (!Modifier.isPrivate(modifiers)) {
            found.add(member);
        }
    }
}
