import java.lang.reflect.Constructor;
import java.lang.reflect.Field;
import java.lang.reflect.Method;
import java.lang.reflect.Modifier;
import java.util.Set;
import java.util.TreeSet;

/** The public face, and those rules of LANGUAGE.md that can be seen in the class from outside. */
public final class FaceTest {
    private static final String[] METHODS = {"length 1", "place 3", "told 2", "as 2", "shut 2", "land 2", "landAt 1",
        "fire 3", "burns 1", "dry 1", "feed 3", "trim 1", "text 2", "of 2", "why 2", "walker 5", "is 2", "shoes 1",
        "zero 2", "finds 2", "box 4", "send 3", "boxTold 2", "run 1", "crowd 1", "quota 2", "wish 2", "granted 1",
        "would 1", "cost 1", "plan 3", "ride 3", "minutes 2", "round 1", "picture 2", "proved 2", "sheet 3", "mark 3",
        "sum 2", "copy 5", "tell 1", "check 1", "keep 0", "back 0", "count 1"};
    private static final String[] CONSTANTS = {"BAD", "NO", "FULL", "NONE", "NOTHING", "KIND", "INDEX", "SIZE"};

    public static void main(String[] args) {
        face();
        classesInside();
        Due.end("FaceTest");
    }

    private static void face() {
        Class<?> of = LongTrail.class;
        Due.is("public final", of.getModifiers() & (Modifier.PUBLIC | Modifier.FINAL), Modifier.PUBLIC | Modifier.FINAL);
        Set<String> want = new TreeSet<>(Set.of(METHODS));
        Set<String> got = new TreeSet<>();
        Set<String> names = new TreeSet<>();
        for (Method m : of.getDeclaredMethods()) {
            if (!Modifier.isPrivate(m.getModifiers())) {
                got.add(m.getName() + " " + m.getParameterCount());
                names.add(m.getName());
                same(m.getName() + " is a public method", Modifier.toString(m.getModifiers()), "public");
                same(m.getName() + " answers", m.getReturnType().getName(), "int");
                for (Class<?> p : m.getParameterTypes()) {
                    same(m.getName() + " takes", p.getName(), "int");
                }
            }
        }
        same("methods", got.toString(), want.toString());
        for (Method m : of.getDeclaredMethods()) {
            if (Modifier.isPrivate(m.getModifiers())) {
                Due.is("private method named " + m.getName(), names.contains(m.getName()) ? 1 : 0, 0);
            }
        }
        Set<String> fields = new TreeSet<>();
        for (Field f : of.getDeclaredFields()) {
            if (!Modifier.isPrivate(f.getModifiers())) {
                fields.add(f.getName());
                same(f.getName(), Modifier.toString(f.getModifiers()) + " " + f.getType(), "public static final int");
            }
        }
        same("constants", fields.toString(), new TreeSet<>(Set.of(CONSTANTS)).toString());
        Constructor<?>[] constructors = of.getDeclaredConstructors();
        Due.is("constructors", constructors.length, 1);
        same("constructor", Modifier.toString(constructors[0].getModifiers()), "public");
        Due.is("constructor takes", constructors[0].getParameterCount(), 0);
    }

    private static void classesInside() {
        Class<?>[] inside = LongTrail.class.getDeclaredClasses();
        Due.is("some twelve classes", inside.length <= 12 ? 1 : 0, 1);
        for (Class<?> c : inside) {
            Due.is(c.getName() + " is static", Modifier.isStatic(c.getModifiers()) ? 1 : 0, 1);
            Due.is(c.getName() + " is not public", Modifier.isPublic(c.getModifiers()) ? 1 : 0, 0);
            int fields = 0;
            for (Field f : c.getDeclaredFields()) {
                fields += Modifier.isStatic(f.getModifiers()) ? 0 : 1;
                Due.is(c.getName() + "." + f.getName() + " static and not final",
                        Modifier.isStatic(f.getModifiers()) && !Modifier.isFinal(f.getModifiers()) ? 1 : 0, 0);
            }
            Due.is(c.getName() + " has some twenty fields", fields <= 20 ? 1 : 0, 1);
            for (Method m : c.getDeclaredMethods()) {
                Due.is(m + " takes seven at most", m.getParameterCount() <= 7 ? 1 : 0, 1);
                for (String face : METHODS) {
                    Due.is(m + " bears a name of the face", face.startsWith(m.getName() + " ") ? 1 : 0, 0);
                }
            }
        }
    }

    private static void same(String what, String got, String want) {
        if (!got.equals(want)) {
            System.out.println(what + ": " + got + ", due is " + want);
        }
        Due.is(what, got.equals(want) ? 1 : 0, 1);
    }
}
