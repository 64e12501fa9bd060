import java.lang.reflect.Constructor;
import java.lang.reflect.Field;
import java.lang.reflect.Method;
import java.lang.reflect.Modifier;
import java.util.NoSuchElementException;
import java.util.Set;
import java.util.TreeSet;

/** The public face: the members of the document and no others. */
public final class FaceTest {
    private static final String[] FACE = {
        "int string 4", "int add 4", "int cut 2", "int join 2", "boolean turn 1",
        "boolean name 2", "boolean give 2", "int of 2", "int bead 3", "int named 1",
        "int tale 3", "int set 3", "int rate 1", "int rich 1", "int drawn 3", "int cheat 2",
        "int blame 1", "int serves 2", "int pay 3", "int owe 4", "boolean settle 2",
        "int debt 2", "int year 0", "int count 1", "boolean heap 2", "int strung 0",
        "int strings 0", "int part 1",
    };

    public static void main(String[] args) throws NoSuchMethodException {
        Check check = new Check();
        Class<?> face = ShellMoney.class;
        check.due("the class is public and final",
                Modifier.isPublic(face.getModifiers()) && Modifier.isFinal(face.getModifiers()), true);
        check.due("NONE", ShellMoney.NONE, -1);
        checkMethods(check, face);
        checkOthers(check, face);
        Class<?>[] thrown = face.getMethod("of", int.class, int.class).getExceptionTypes();
        check.due("of(..) names NoSuchElementException",
                thrown.length == 1 && thrown[0] == NoSuchElementException.class, true);
        check.close();
    }

    private static void checkMethods(Check check, Class<?> face) {
        Set<String> wanted = new TreeSet<>(Set.of(FACE));
        Set<String> names = new TreeSet<>();
        for (String row : FACE) {
            names.add(row.split(" ")[1]);
        }
        Set<String> found = new TreeSet<>();
        for (Method m : face.getDeclaredMethods()) {
            if (Modifier.isPrivate(m.getModifiers())) {
                check.due("a private method is called " + m.getName(), names.contains(m.getName()), false);
                continue;
            }
            check.due(m + " is public and of the object",
                    Modifier.isPublic(m.getModifiers()) && !Modifier.isStatic(m.getModifiers()), true);
            for (Class<?> type : m.getParameterTypes()) {
                check.due(m + " takes ints", type == int.class, true);
            }
            found.add(m.getReturnType() + " " + m.getName() + " " + m.getParameterCount());
        }
        check.due("the methods " + found + " are " + wanted, found.equals(wanted), true);
    }

    private static void checkOthers(Check check, Class<?> face) {
        for (Field f : face.getDeclaredFields()) {
            boolean open = !Modifier.isPrivate(f.getModifiers());
            check.due(f + " is seen from outside", open, f.getName().equals("NONE"));
        }
        Constructor<?>[] made = face.getDeclaredConstructors();
        check.due("constructors", made.length, 1);
        check.due("the constructor is public, without parameters",
                Modifier.isPublic(made[0].getModifiers()) && made[0].getParameterCount() == 0, true);
        for (Class<?> inside : face.getDeclaredClasses()) {
            check.due(inside + " is static", Modifier.isStatic(inside.getModifiers()), true);
            check.due(inside + " is public", Modifier.isPublic(inside.getModifiers()), false);
        }
    }
}
