import java.lang.reflect.Constructor;
import java.lang.reflect.Field;
import java.lang.reflect.Method;
import java.lang.reflect.Modifier;
import java.util.TreeSet;

/** The public face, and the rules 1 and 5 of LANGUAGE.md as far as they can be seen from outside. */
public final class FaceTest {
    private static final String FACE = "boolean close()\n"
        + "boolean cut(int)\n"
        + "boolean flaky(int)\n"
        + "boolean letter(char)\n"
        + "boolean poke(int,char)\n"
        + "boolean put(char)\n"
        + "int at(int)\n"
        + "int attempts(int)\n"
        + "int depth(int)\n"
        + "int kind(int)\n"
        + "int length()\n"
        + "int name(int,int)\n"
        + "int nodes()\n"
        + "int open()\n"
        + "int read()\n"
        + "int test(int)\n"
        + "int write()\n"
        + "void reset()\n";

    public static void main(String[] args) {
        Checks checks = new Checks();
        constants(checks);
        members(checks);
        classesInside(checks);
        checks.end();
    }

    private static void constants(Checks checks) {
        checks.due("BAD", -1, VerdictPages.BAD);
        checks.due("FULL", -2, VerdictPages.FULL);
    }

    private static void members(Checks checks) {
        Class<?> face = VerdictPages.class;
        checks.due("the class is final", true, Modifier.isFinal(face.getModifiers()));
        checks.due("the class is public", true, Modifier.isPublic(face.getModifiers()));
        checks.due("the visible methods", FACE, visibleMethods(face));
        Constructor<?>[] constructors = face.getDeclaredConstructors();
        checks.due("constructors", 1, constructors.length);
        checks.due("its parameters", 0, constructors[0].getParameterCount());
        checks.due("it is public", true, Modifier.isPublic(constructors[0].getModifiers()));
        int visibleFields = 0;
        for (Field field : face.getDeclaredFields()) {
            visibleFields += Modifier.isPrivate(field.getModifiers()) ? 0 : 1;
            noChangingStatic(checks, field);
        }
        checks.due("visible fields", 2, visibleFields);
    }

    private static String visibleMethods(Class<?> face) {
        TreeSet<String> methods = new TreeSet<>();
        for (Method method : face.getDeclaredMethods()) {
            if (!Modifier.isPrivate(method.getModifiers())) {
                StringBuilder told = new StringBuilder();
                for (Class<?> type : method.getParameterTypes()) {
                    told.append(told.length() == 0 ? "" : ",").append(type.getName());
                }
                String isPublic = Modifier.isPublic(method.getModifiers()) ? "" : "not public: ";
                methods.add(isPublic + method.getReturnType().getName() + " " + method.getName()
                    + "(" + told + ")\n");
            }
        }
        return String.join("", methods);
    }

    private static void classesInside(Checks checks) {
        TreeSet<String> faceNames = new TreeSet<>();
        for (Method method : VerdictPages.class.getDeclaredMethods()) {
            if (Modifier.isPublic(method.getModifiers())) {
                faceNames.add(method.getName());
            }
        }
        for (Class<?> inside : VerdictPages.class.getDeclaredClasses()) {
            checks.due(inside + " is static", true, Modifier.isStatic(inside.getModifiers()));
            for (Field field : inside.getDeclaredFields()) {
                noChangingStatic(checks, field);
            }
            for (Method method : inside.getDeclaredMethods()) {
                checks.due(method + " bears a name of the face", false, faceNames.contains(method.getName()));
            }
        }
    }

    private static void noChangingStatic(Checks checks, Field field) {
        boolean isStatic = Modifier.isStatic(field.getModifiers());
        boolean isFinal = Modifier.isFinal(field.getModifiers());
        checks.due(field + " is static and changes", false, isStatic && !isFinal);
    }
}
