import java.lang.reflect.Constructor;
import java.lang.reflect.Field;
import java.lang.reflect.Method;
import java.lang.reflect.Modifier;
import java.util.Set;
import java.util.TreeSet;

/** The public face is the document's, and nothing else of the class can be seen from outside. */
public final class FaceTest {
    private static final Set<String> DUE = Set.of(
            "public CampusNet(int,int,int)",
            "public int CampusNet.bridge(int)",
            "public int CampusNet.wire(int,int,int)",
            "public int CampusNet.host(int,int)",
            "public boolean CampusNet.router(int)",
            "public boolean CampusNet.access(int,int)",
            "public boolean CampusNet.trunk(int,int,int)",
            "public boolean CampusNet.cut(int,boolean)",
            "public int CampusNet.tick(int)",
            "public int CampusNet.role(int)",
            "public int CampusNet.state(int)",
            "public int CampusNet.root(int)",
            "public int CampusNet.held(int,int)",
            "public int CampusNet.learned(int,int,int)",
            "public int CampusNet.entries(int)",
            "public int CampusNet.send(int,int)",
            "public int CampusNet.ask(int,int,int)",
            "public int CampusNet.answer()",
            "public int CampusNet.crossings()");

    public static void main(String[] args) {
        Set<String> seen = new TreeSet<>();
        for (Constructor<?> c : CampusNet.class.getDeclaredConstructors()) {
            if (!Modifier.isPrivate(c.getModifiers())) {
                seen.add(c.toString());
            }
        }
        for (Method m : CampusNet.class.getDeclaredMethods()) {
            if (!Modifier.isPrivate(m.getModifiers())) {
                seen.add(m.toString());
            }
        }
        for (Field f : CampusNet.class.getDeclaredFields()) {
            if (!Modifier.isPrivate(f.getModifiers())) {
                seen.add(f.toString());
            }
        }
        Check check = new Check();
        check.due("the face " + seen, seen.equals(DUE), true);
        int modifiers = CampusNet.class.getModifiers();
        check.due("public", Modifier.isPublic(modifiers), true);
        check.due("final", Modifier.isFinal(modifiers), true);
        check.end();
    }
}
