import java.lang.reflect.Constructor;
import java.lang.reflect.Field;
import java.lang.reflect.Method;
import java.lang.reflect.Modifier;
import java.util.ArrayList;
import java.util.Arrays;
import java.util.List;
import java.util.Set;
import java.util.TreeSet;

/** The public face of the document, and rule 1 of the language: nothing else can be seen. */
public final class FaceTest {
    private static final String ARGUMENT = " IllegalArgumentException";
    private static final String BOTH = " IllegalArgumentException IllegalStateException";
    private static final String[] FACE = {
        "boolean road(int, int, int)",
        "boolean district(int, int)",
        "boolean card(int, int, int, int)",
        "int questions(int)",
        "boolean unit(int, int, int)",
        "boolean status(int, int)",
        "boolean speed(int, int)",
        "long tick(int)" + ARGUMENT,
        "void ask(int, int)" + BOTH,
        "int grantOf(int, int)",
        "int take(int, int, int)" + BOTH,
        "int answer(int, int, boolean)" + BOTH,
        "int order(int, int)" + BOTH,
        "void close(int, int)" + BOTH,
        "void store(int, int)" + BOTH,
        "int letters()",
        "int letter(int, int)",
        "boolean deliver(int)",
        "boolean lose(int)",
        "boolean twin(int)",
        "boolean crash(int)",
        "boolean mount(int)",
        "int eta(int, int)",
        "int nearest(int, int, int, int)",
        "int unitIs(int, int)",
        "int unitKnown(int, int, int)",
        "int callKnown(int, int, int)",
    };

    public static void main(String[] args) {
        Due.on("face");
        Class<?> face = TwinRooms.class;
        Due.yes("public", Modifier.isPublic(face.getModifiers()));
        Due.yes("final", Modifier.isFinal(face.getModifiers()));
        methods(face);
        fields(face);
        constructors(face);
        classesInside(face);
        Due.end();
    }

    private static void methods(Class<?> face) {
        Set<String> due = new TreeSet<>(Arrays.asList(FACE));
        Set<String> names = new TreeSet<>();
        for (Method method : face.getDeclaredMethods()) {
            if (!Modifier.isPrivate(method.getModifiers())) {
                Due.yes("in the document: " + say(method), due.remove(say(method)));
                names.add(method.getName());
            }
        }
        Due.is("missing " + due, 0, due.size());
        for (Method method : privateMethods(face)) {
            Due.no("private, with a public name: " + method, names.contains(method.getName()));
        }
    }

    private static List<Method> privateMethods(Class<?> face) {
        List<Method> found = new ArrayList<>();
        for (Method method : face.getDeclaredMethods()) {
            if (Modifier.isPrivate(method.getModifiers())) {
                found.add(method);
            }
        }
        for (Class<?> inside : face.getDeclaredClasses()) {
            found.addAll(Arrays.asList(inside.getDeclaredMethods()));
        }
        return found;
    }

    private static String say(Method method) {
        StringBuilder text = new StringBuilder();
        text.append(method.getReturnType()).append(' ').append(method.getName()).append('(');
        String between = "";
        for (Class<?> kind : method.getParameterTypes()) {
            text.append(between).append(kind);
            between = ", ";
        }
        text.append(')');
        for (Class<?> kind : method.getExceptionTypes()) {
            text.append(' ').append(kind.getSimpleName());
        }
        return text.toString();
    }

    private static void fields(Class<?> face) {
        for (Field field : face.getDeclaredFields()) {
            boolean seen = !Modifier.isPrivate(field.getModifiers());
            Due.is("seen: " + field, field.getName().equals("NONE") ? 1 : 0, seen ? 1 : 0);
            if (Modifier.isStatic(field.getModifiers())) {
                Due.yes("final: " + field, Modifier.isFinal(field.getModifiers()));
            }
        }
    }

    private static void constructors(Class<?> face) {
        Constructor<?>[] all = face.getDeclaredConstructors();
        Due.is("constructors", 1, all.length);
        Due.yes("public", Modifier.isPublic(all[0].getModifiers()));
        Due.is("parameters", 0, all[0].getParameterCount());
    }

    private static void classesInside(Class<?> face) {
        for (Class<?> inside : face.getDeclaredClasses()) {
            Due.yes("static: " + inside, Modifier.isStatic(inside.getModifiers()));
            Due.no("public: " + inside, Modifier.isPublic(inside.getModifiers()));
            Due.no("protected: " + inside, Modifier.isProtected(inside.getModifiers()));
        }
        Due.yes("some twelve classes", face.getDeclaredClasses().length < 12);
    }
}
