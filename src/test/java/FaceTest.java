import java.lang.reflect.Constructor;
import java.lang.reflect.Field;
import java.lang.reflect.Method;
import java.lang.reflect.Modifier;
import java.util.Set;
import java.util.TreeSet;

/** The class has the document's face, and no other member that is not private. */
public final class FaceTest {
    private static final Set<String> FACE = Set.of(
            "public ReferredNames()",
            "public boolean ReferredNames.put(long,int)",
            "public int ReferredNames.give()",
            "public int ReferredNames.refer()",
            "public int ReferredNames.find()",
            "public int ReferredNames.look(int,int)",
            "public int ReferredNames.byteOf(int,int)",
            "public int ReferredNames.count(int)",
            "public int ReferredNames.clear()");

    public static void main(String[] args) {
        int modifiers = ReferredNames.class.getModifiers();
        Due.is("face: public and final", modifiers, Modifier.PUBLIC | Modifier.FINAL);
        Set<String> seen = visibleMembers();
        for (String member : FACE) {
            Due.is("face: has " + member, seen.contains(member), true);
        }
        for (String member : seen) {
            Due.is("face: may have " + member, FACE.contains(member), true);
        }
        Due.end();
    }

    private static Set<String> visibleMembers() {
        Set<String> seen = new TreeSet<>();
        for (Constructor<?> c : ReferredNames.class.getDeclaredConstructors()) {
            addVisible(seen, c.getModifiers(), c.toString());
        }
        for (Method m : ReferredNames.class.getDeclaredMethods()) {
            addVisible(seen, m.getModifiers(), m.toString());
        }
        for (Field f : ReferredNames.class.getDeclaredFields()) {
            addVisible(seen, f.getModifiers(), f.toString());
        }
        return seen;
    }

    private static void addVisible(Set<String> seen, int modifiers, String member) {
        if (!Modifier.isPrivate(modifiers)) {
            seen.add(member);
        }
    }
}
