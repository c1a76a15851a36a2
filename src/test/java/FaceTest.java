import java.lang.reflect.Constructor;
import java.lang.reflect.Field;
import java.lang.reflect.Method;
import java.lang.reflect.Modifier;
import java.util.Set;
import java.util.TreeSet;

/** The face is the document's and no other: LANGUAGE.md, rules 1, 5 and 11, as far as reflection tells. */
final class FaceTest {
    private static final Check CHECK = new Check("FaceTest");
    private static final Set<String> METHODS = Set.of(
            "int type(int)", "int clear()", "int inserts(int)", "int sets(int)", "int drops(int)",
            "int puts(int, int, int)", "int erases(int, int)", "int splits(int, int)", "int word()",
            "int unword(int)", "int rule(int, int, int)", "int at(int, int, int)", "int of(int, int)",
            "int span(int, int, int)", "int anew()", "int painted(int)", "int back()", "int told(int)",
            "long digest()");

    public static void main(String[] args) {
        Class<?> face = PaintedLines.class;
        CHECK.isTrue("the class is public and final",
                Modifier.isPublic(face.getModifiers()) && Modifier.isFinal(face.getModifiers()));
        CHECK.isTrue("it has no package", face.getPackageName().isEmpty());
        constructors(face);
        Set<String> names = methods(face);
        fields(face);
        Class<?>[] inside = face.getDeclaredClasses();
        CHECK.isTrue("some twelve classes at most", inside.length < 12);
        for (Class<?> one : inside) {
            classInside(one, names);
        }
        CHECK.end();
    }

    private static void constructors(Class<?> face) {
        Constructor<?>[] all = face.getDeclaredConstructors();
        CHECK.due("constructors", all.length, 1);
        CHECK.isTrue("public, without parameters",
                Modifier.isPublic(all[0].getModifiers()) && all[0].getParameterCount() == 0);
    }

    private static Set<String> methods(Class<?> face) {
        Set<String> seen = new TreeSet<>();
        Set<String> names = new TreeSet<>();
        for (Method method : face.getDeclaredMethods()) {
            if (Modifier.isPublic(method.getModifiers())) {
                seen.add(signature(method));
                names.add(method.getName());
                CHECK.isTrue(method.getName() + " is not static", !Modifier.isStatic(method.getModifiers()));
            } else {
                CHECK.isTrue(method.getName() + " is private", Modifier.isPrivate(method.getModifiers()));
            }
        }
        CHECK.due("public methods", seen.toString(), new TreeSet<>(METHODS).toString());
        for (Method method : face.getDeclaredMethods()) {
            CHECK.isTrue("a private method named " + method.getName(),
                    Modifier.isPublic(method.getModifiers()) || !names.contains(method.getName()));
        }
        return names;
    }

    private static String signature(Method method) {
        StringBuilder text = new StringBuilder();
        text.append(method.getReturnType().getName()).append(' ').append(method.getName()).append('(');
        for (int i = 0; i < method.getParameterCount(); i++) {
            text.append(i == 0 ? "" : ", ").append(method.getParameterTypes()[i].getName());
        }
        return text.append(')').toString();
    }

    private static void fields(Class<?> one) {
        Set<String> open = new TreeSet<>();
        int own = 0;
        for (Field field : one.getDeclaredFields()) {
            if (Modifier.isStatic(field.getModifiers())) {
                CHECK.isTrue(field.getName() + " is final", Modifier.isFinal(field.getModifiers()));
                CHECK.isTrue(field.getName() + " is an int", field.getType() == int.class);
            } else {
                own++;
            }
            if (!Modifier.isPrivate(field.getModifiers())) {
                open.add(field.getName());
            }
        }
        CHECK.isTrue(one.getName() + " has some twenty fields at most", own <= 20);
        if (one == PaintedLines.class) {
            CHECK.due("constants", open.toString(), "[BAD, FULL, NO, NONE]");
        }
    }

    private static void classInside(Class<?> one, Set<String> faceNames) {
        CHECK.isTrue(one.getName() + " is static", Modifier.isStatic(one.getModifiers()));
        CHECK.isTrue(one.getName() + " is not public", !Modifier.isPublic(one.getModifiers()));
        fields(one);
        for (Method method : one.getDeclaredMethods()) {
            CHECK.isTrue(one.getName() + "." + method.getName() + " bears no name of the face",
                    !faceNames.contains(method.getName()));
            CHECK.isTrue(method.getName() + " takes seven parameters at most", method.getParameterCount() <= 7);
        }
    }
}
