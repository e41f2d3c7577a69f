import java.lang.reflect.Constructor;
import java.lang.reflect.Field;
import java.lang.reflect.Method;
import java.lang.reflect.Modifier;
import java.util.NoSuchElementException;
import java.util.TreeSet;

/** The class has the face that the document shows, and nothing else that others can see. */
public final class FaceTest {
    private static final String[] FACE = {
        "int feed(int,int,int,int,int)", "boolean end(int)", "int house()", "int fault()",
        "int kind(int,int)!", "int passes(int,int,int)", "int may(int)", "int tellings()",
        "int tell(int,int,int)", "int untell()", "int telling(int,int)!", "long worlds()",
        "long worldsOf(int,int)", "long waysOf(int,int)", "int sure(int,int)", "long odds(int,int,int)!",
        "int hours(int,int)", "long both(int,int,int)", "long bet(int,int,int)!", "int lying(int)",
        "int liars()", "int liarSet(int)", "int clash()", "long wouldTell(int,int,int)",
        "long left(int,int)", "int next()", "int table(int)", "int said(int)", "int ended(int)",
        "int rules()", "int turn(int)", "int content(int)", "int trade()", "boolean drawn(int,int)",
        "boolean image(int)", "boolean restore(int)", "int count(int)",
    };

    private FaceTest() {
    }

    public static void main(String[] args) throws ReflectiveOperationException {
        Class<?> face = WindowTurns.class;
        Check.same("public final", true, Modifier.isPublic(face.getModifiers())
                && Modifier.isFinal(face.getModifiers()));
        checkMethods(face);
        checkFields(face);
        Constructor<?>[] made = face.getDeclaredConstructors();
        Check.same("one constructor", 1, made.length);
        Check.same("public, without parameters", true, Modifier.isPublic(made[0].getModifiers())
                && made[0].getParameterCount() == 0);
        for (Class<?> inside : face.getDeclaredClasses()) {
            Check.same(inside.getName() + " is static and not public", true,
                    Modifier.isStatic(inside.getModifiers()) && !Modifier.isPublic(inside.getModifiers()));
        }
        Check.end();
    }

    private static void checkMethods(Class<?> face) {
        TreeSet<String> due = new TreeSet<>(java.util.List.of(FACE));
        TreeSet<String> names = new TreeSet<>();
        for (Method method : face.getDeclaredMethods()) {
            if (Modifier.isPublic(method.getModifiers())) {
                names.add(method.getName());
                Check.same("of the face: " + shape(method), true, due.remove(shape(method)));
            }
        }
        Check.same("not there: " + due, 0, due.size());
        checkOthers(face, names);
        for (Class<?> inside : face.getDeclaredClasses()) {
            checkOthers(inside, names);
        }
    }

    private static void checkOthers(Class<?> of, TreeSet<String> names) {
        for (Method method : of.getDeclaredMethods()) {
            boolean isPublic = of == WindowTurns.class && Modifier.isPublic(method.getModifiers());
            if (!isPublic) {
                Check.same(method + " has a name of its own", false, names.contains(method.getName()));
                boolean isHidden = of != WindowTurns.class || Modifier.isPrivate(method.getModifiers());
                Check.same(method + " is not seen outside", true, isHidden);
            }
        }
    }

    private static String shape(Method method) {
        StringBuilder shape = new StringBuilder();
        shape.append(method.getReturnType().getName()).append(' ').append(method.getName()).append('(');
        for (int i = 0; i < method.getParameterCount(); i++) {
            shape.append(i == 0 ? "" : ",").append(method.getParameterTypes()[i].getName());
        }
        shape.append(')');
        for (Class<?> thrown : method.getExceptionTypes()) {
            shape.append(thrown == NoSuchElementException.class ? "!" : "?");
        }
        return shape.toString();
    }

    private static void checkFields(Class<?> face) throws ReflectiveOperationException {
        Check.same("NONE", -1, WindowTurns.NONE);
        for (Field field : face.getDeclaredFields()) {
            int modifiers = field.getModifiers();
            if (!field.getName().equals("NONE")) {
                Check.same(field + " is private", true, Modifier.isPrivate(modifiers));
            }
            if (Modifier.isStatic(modifiers)) {
                Check.same(field + " is final", true, Modifier.isFinal(modifiers));
            }
        }
    }
}
