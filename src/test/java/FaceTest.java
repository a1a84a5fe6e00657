import java.lang.reflect.Field;
import java.lang.reflect.Method;
import java.lang.reflect.Modifier;
import java.util.Arrays;
import java.util.TreeSet;

/** The public face: all that the document names, and nothing else that is not private. */
public final class FaceTest {
    public static void main(String[] args) {
        Check.same("class", Modifier.toString(NetlistForms.class.getModifiers()), "public final");
        Check.same("constructors", Arrays.toString(NetlistForms.class.getDeclaredConstructors()),
            "[public NetlistForms()]");
        Check.same("methods", methods(), new TreeSet<>(Arrays.asList(
            "boolean unit 1", "boolean units 1", "int read 1", "int module 2", "int net 3",
            "int instance 3", "int joined 4", "int assign 4", "int letter 4", "int write 2",
            "int count 1")));
        Check.same("fields", fields(), new TreeSet<>(Arrays.asList("int NONE", "int ZERO", "int ONE")));
        Check.same("NONE", NetlistForms.NONE, -1);
        Check.same("ZERO", NetlistForms.ZERO, -2);
        Check.same("ONE", NetlistForms.ONE, -3);
        Check.end("FaceTest");
    }

    private static TreeSet<String> methods() {
        TreeSet<String> found = new TreeSet<>();
        for (Method m : NetlistForms.class.getDeclaredMethods()) {
            if (!Modifier.isPrivate(m.getModifiers())) {
                boolean plain = m.getModifiers() == Modifier.PUBLIC;
                found.add((plain ? "" : "not plain ") + m.getReturnType() + " " + m.getName() + " "
                    + m.getParameterCount());
            }
        }
        return found;
    }

    private static TreeSet<String> fields() {
        TreeSet<String> found = new TreeSet<>();
        for (Field f : NetlistForms.class.getDeclaredFields()) {
            if (!Modifier.isPrivate(f.getModifiers())) {
                found.add(f.getType() + " " + f.getName());
            }
        }
        return found;
    }
}
