import java.lang.reflect.Constructor;
import java.lang.reflect.Field;
import java.lang.reflect.Method;
import java.lang.reflect.Modifier;
import java.util.Set;
import java.util.TreeSet;

/** The class has the document's face and no other member that can be seen from outside. */
final class FaceTest {
    private static final String[] FACE = {
        "bears(int, int, int)", "bound(int)", "clock(int, int, int)", "count(int)", "event(int, int)", "image(int)",
        "node(int, int, int, int)", "off(int)", "restore(int)", "run(int)", "seen(int, int)", "soon()", "spread()",
        "told(int, int)", "trim(int, int, int, int, int)", "wake(int, int)",
        "SlotStart()", "UNKNOWN", "OUTSIDE", "STATE", "NONE"};

    public static void main(String[] args) {
        Set<String> face = new TreeSet<>(Set.of(FACE));
        Set<String> found = new TreeSet<>();
        for (Method m : SlotStart.class.getDeclaredMethods()) {
            methodInside(m);
            if (!Modifier.isPrivate(m.getModifiers())) {
                found.add(name(m.getName(), m.getParameterTypes()));
                Check.due("modifiers of " + m, m.getModifiers(), Modifier.PUBLIC);
                Check.due("int of " + m, m.getReturnType() == int.class ? 1 : 0, 1);
            }
        }
        for (Constructor<?> c : SlotStart.class.getDeclaredConstructors()) {
            found.add(name(c.getName(), c.getParameterTypes()));
            Check.due("modifiers of " + c, c.getModifiers(), Modifier.PUBLIC);
        }
        int constant = Modifier.PUBLIC | Modifier.STATIC | Modifier.FINAL;
        for (Field f : SlotStart.class.getDeclaredFields()) {
            if (!Modifier.isPrivate(f.getModifiers())) {
                found.add(f.getName());
                Check.due("modifiers of " + f, f.getModifiers(), constant);
            }
        }
        Check.due("face " + face + ", found " + found, face.equals(found) ? 1 : 0, 1);
        Check.due("public final", SlotStart.class.getModifiers(), Modifier.PUBLIC | Modifier.FINAL);
        for (Class<?> inside : SlotStart.class.getDeclaredClasses()) {
            classInside(inside);
        }
        Check.due("UNKNOWN", SlotStart.UNKNOWN, -1);
        Check.due("OUTSIDE", SlotStart.OUTSIDE, -2);
        Check.due("STATE", SlotStart.STATE, -3);
        Check.due("NONE", SlotStart.NONE, -6);
        Check.end();
    }

    /** LANGUAGE.md, rules 1, 2 and 11: static, not seen from outside, no name of the face for what is private. */
    private static void classInside(Class<?> inside) {
        int seen = Modifier.PUBLIC | Modifier.PROTECTED;
        Check.due("static: " + inside, inside.getModifiers() & Modifier.STATIC, Modifier.STATIC);
        Check.due("not seen from outside: " + inside, inside.getModifiers() & seen, 0);
        for (Method m : inside.getDeclaredMethods()) {
            methodInside(m);
        }
        int fields = 0;
        for (Field f : inside.getDeclaredFields()) {
            fields += Modifier.isStatic(f.getModifiers()) ? 0 : 1;
        }
        Check.due("more than twenty fields: " + inside, fields > 20 ? 1 : 0, 0);
    }

    private static void methodInside(Method m) {
        boolean ofTheFace = false;
        for (String of : FACE) {
            ofTheFace |= of.startsWith(m.getName() + "(");
        }
        boolean isPrivate = Modifier.isPrivate(m.getModifiers());
        Check.due("private with a name of the face: " + m, isPrivate && ofTheFace ? 1 : 0, 0);
        Check.due("more than seven parameters: " + m, m.getParameterCount() > 7 ? 1 : 0, 0);
    }

    private static String name(String name, Class<?>[] types) {
        StringBuilder all = new StringBuilder(name).append('(');
        for (int i = 0; i < types.length; i++) {
            all.append(i == 0 ? "" : ", ").append(types[i].getSimpleName());
        }
        return all.append(')').toString();
    }
}
