import java.lang.reflect.Constructor;
import java.lang.reflect.Executable;
import java.lang.reflect.Field;
import java.lang.reflect.Method;
import java.lang.reflect.Modifier;
import java.util.Arrays;
import java.util.TreeSet;

/** The public face: its constants, constructor and methods, and nothing else that is not private. */
public final class FaceTest {
    private static final String[] METHODS = {
        "int effective(int,int,int,long)",
        "int extend(int,long)",
        "int order(int,int,int,int,long,long)",
        "int proof(int,boolean,long)",
        "int rank(int,int)",
        "int ring(int)",
        "int tick(long)",
        "int told(int,int)",
        "int withdraw(int,long)",
    };
    private static final Check check = new Check();

    public static void main(String[] args) {
        constants();
        members();
        check.end();
    }

    private static void constants() {
        check.due("UNKNOWN", OrderRows2.UNKNOWN, -101);
        check.due("OUTSIDE", OrderRows2.OUTSIDE, -102);
        check.due("STATE", OrderRows2.STATE, -103);
        check.due("ROOM", OrderRows2.ROOM, -104);
    }

    private static void members() {
        Class<?> face = OrderRows2.class;
        int modifiers = face.getModifiers();
        holds("the class is public and final", Modifier.isPublic(modifiers) && Modifier.isFinal(modifiers));

        TreeSet<String> fields = new TreeSet<>();
        for (Field field : face.getDeclaredFields()) {
            if (!Modifier.isPrivate(field.getModifiers())) {
                fields.add(field.toString());
            }
        }
        same("fields", fields, "public static final int OrderRows2.OUTSIDE", "public static final int OrderRows2.ROOM",
                "public static final int OrderRows2.STATE", "public static final int OrderRows2.UNKNOWN");

        TreeSet<String> methods = new TreeSet<>();
        TreeSet<String> names = new TreeSet<>();
        for (Method method : face.getDeclaredMethods()) {
            if (Modifier.isPublic(method.getModifiers())) {
                methods.add(method.getReturnType().getName() + " " + method.getName() + parameters(method));
                names.add(method.getName());
            } else {
                holds(method + " is private", Modifier.isPrivate(method.getModifiers()) || method.isSynthetic());
            }
        }
        same("methods", methods, METHODS);
        for (Method method : face.getDeclaredMethods()) {
            holds(method + " bears no public name",
                    Modifier.isPublic(method.getModifiers()) || !names.contains(method.getName()));
        }

        TreeSet<String> constructors = new TreeSet<>();
        for (Constructor<?> constructor : face.getDeclaredConstructors()) {
            constructors.add(Modifier.toString(constructor.getModifiers()) + " " + parameters(constructor));
        }
        same("constructors", constructors, "public ()");
    }

    private static String parameters(Executable of) {
        StringBuilder text = new StringBuilder("(");
        for (Class<?> type : of.getParameterTypes()) {
            text.append(text.length() > 1 ? "," : "").append(type.getName());
        }
        return text.append(")").toString();
    }

    private static void same(String what, TreeSet<String> got, String... want) {
        holds(what + " are " + got, got.equals(new TreeSet<>(Arrays.asList(want))));
    }

    private static void holds(String what, boolean is) {
        check.due(what, is ? 1 : 0, 1);
    }
}
