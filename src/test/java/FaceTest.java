import java.lang.reflect.Field;
import java.lang.reflect.Method;
import java.lang.reflect.Modifier;
import java.util.Arrays;
import java.util.TreeSet;

/** The public face: all that the document names, as written there, and nothing else that is not private. */
public final class FaceTest {
    private static final String THROWS = " throws java.lang.IndexOutOfBoundsException";

    public static void main(String[] args) {
        Check.same("class", NetlistForms.class.toGenericString(), "public final class NetlistForms");
        Check.same("superclass", NetlistForms.class.getSuperclass(), Object.class);
        Check.same("interfaces", NetlistForms.class.getInterfaces().length, 0);
        Check.same("constructors", Arrays.toString(NetlistForms.class.getDeclaredConstructors()),
            "[public NetlistForms()]");
        Check.same("methods", methods(), set(
            "public boolean NetlistForms.unit(int)",
            "public boolean NetlistForms.units(int)",
            "public int NetlistForms.read(int)" + THROWS,
            "public int NetlistForms.module(int,int)" + THROWS,
            "public int NetlistForms.net(int,int,int)" + THROWS,
            "public int NetlistForms.instance(int,int,int)" + THROWS,
            "public int NetlistForms.joined(int,int,int,int)" + THROWS,
            "public int NetlistForms.assign(int,int,int,int)" + THROWS,
            "public int NetlistForms.letter(int,int,int,int)" + THROWS,
            "public int NetlistForms.write(int,int)" + THROWS,
            "public int NetlistForms.count(int)" + THROWS));
        Check.same("fields", fields(), set(
            "public static final int NetlistForms.NONE",
            "public static final int NetlistForms.ZERO",
            "public static final int NetlistForms.ONE"));
        Check.same("NONE", NetlistForms.NONE, -1);
        Check.same("ZERO", NetlistForms.ZERO, -2);
        Check.same("ONE", NetlistForms.ONE, -3);
        classesInside();
        Check.end("FaceTest");
    }

    /** LANGUAGE.md, rule 1. */
    private static void classesInside() {
        TreeSet<String> ofTheFace = new TreeSet<>();
        for (Method m : NetlistForms.class.getDeclaredMethods()) {
            if (Modifier.isPublic(m.getModifiers())) {
                ofTheFace.add(m.getName());
            }
        }
        Check.same("private methods with a name of the face", namesAgain(NetlistForms.class, ofTheFace), set());
        for (Class<?> inside : NetlistForms.class.getDeclaredClasses()) {
            int modifiers = inside.getModifiers();
            Check.same(inside.getName() + " is seen outside",
                Modifier.isPublic(modifiers) || Modifier.isProtected(modifiers), false);
            Check.same(inside.getName() + " is static", Modifier.isStatic(modifiers), true);
            Check.same(inside.getName() + ", methods with a name of the face", namesAgain(inside, ofTheFace), set());
        }
    }

    private static TreeSet<String> namesAgain(Class<?> home, TreeSet<String> ofTheFace) {
        TreeSet<String> found = new TreeSet<>();
        for (Method m : home.getDeclaredMethods()) {
            if (!Modifier.isPublic(m.getModifiers()) && ofTheFace.contains(m.getName())) {
                found.add(m.getName());
            }
        }
        return found;
    }

    private static TreeSet<String> methods() {
        TreeSet<String> found = new TreeSet<>();
        for (Method m : NetlistForms.class.getDeclaredMethods()) {
            if (!Modifier.isPrivate(m.getModifiers())) {
                found.add(m.toString());
            }
        }
        return found;
    }

    private static TreeSet<String> fields() {
        TreeSet<String> found = new TreeSet<>();
        for (Field f : NetlistForms.class.getDeclaredFields()) {
            if (!Modifier.isPrivate(f.getModifiers())) {
                found.add(f.toString());
            }
        }
        return found;
    }

    private static TreeSet<String> set(String... rows) {
        return new TreeSet<>(Arrays.asList(rows));
    }
}
