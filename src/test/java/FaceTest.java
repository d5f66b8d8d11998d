import java.lang.reflect.Constructor;
import java.lang.reflect.Field;
import java.lang.reflect.Method;
import java.lang.reflect.Modifier;
import java.util.Arrays;
import java.util.Set;
import java.util.TreeSet;

/** The class has the document's face and no other; no method inside bears a name of it. */
public final class FaceTest {
    private static final String[] FACE = {
        "flyer(int, int, int, int, int, int)", "as(int, int)", "of(int, int)", "go(int, int)",
        "line(int, int)", "wind(int, int, int, int)", "windAt(int, int, boolean)",
        "flies(int, int)", "kite(int, int, boolean)", "meet(int, int, int)", "meets(int)",
        "field(int)", "best(int, int)", "row(int)", "walk(int, boolean)", "at(int)",
        "letter(int, int)", "tangle()", "twist(int, int)", "fewest(int)", "same(int, int, int)",
        "sharp(int, int)", "wear(int)", "lost()", "sheet(int, int, int)", "put(int, int, int)",
        "copy(int, int, int, int, int)", "gusts(int, int, int)", "undo()", "all(int)",
    };

    public static void main(String[] args) {
        Class<?> face = KiteMeet.class;
        Due.due("public and final", face.getModifiers(), Modifier.PUBLIC | Modifier.FINAL);
        Set<String> open = new TreeSet<>();
        Set<String> names = new TreeSet<>();
        for (Method m : face.getDeclaredMethods()) {
            if (!Modifier.isPrivate(m.getModifiers())) {
                open.add(told(m));
                names.add(m.getName());
                Due.due("modifiers of " + m, m.getModifiers(), Modifier.PUBLIC);
                Due.holds("an int: " + m, m.getReturnType() == int.class);
            }
        }
        Due.holds("methods are " + open, open.equals(new TreeSet<>(Arrays.asList(FACE))));
        Constructor<?>[] made = face.getDeclaredConstructors();
        Due.holds("one constructor", made.length == 1 && made[0].getParameterCount() == 0
                && made[0].getModifiers() == Modifier.PUBLIC);
        for (Field f : face.getDeclaredFields()) {
            Due.holds("private: " + f, Modifier.isPrivate(f.getModifiers()));
        }
        namesInside(face, names);
        Due.end();
    }

    private static String told(Method m) {
        String types = Arrays.toString(m.getParameterTypes());
        return m.getName() + "(" + types.substring(1, types.length() - 1) + ")";
    }

    private static void namesInside(Class<?> face, Set<String> names) {
        Due.holds("at most twelve classes", face.getDeclaredClasses().length < 12);
        for (Method m : face.getDeclaredMethods()) {
            Due.holds("name of its own: " + m,
                    !Modifier.isPrivate(m.getModifiers()) || !names.contains(m.getName()));
        }
        for (Class<?> inside : face.getDeclaredClasses()) {
            Due.holds("static: " + inside, Modifier.isStatic(inside.getModifiers()));
            Due.holds("private: " + inside, Modifier.isPrivate(inside.getModifiers()));
            Due.holds("at most twenty fields: " + inside, inside.getDeclaredFields().length <= 20);
            for (Method m : inside.getDeclaredMethods()) {
                Due.holds("name of its own: " + m, !names.contains(m.getName()));
                Due.holds("at most seven parameters: " + m, m.getParameterCount() <= 7);
            }
        }
    }
}
