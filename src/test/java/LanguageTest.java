import java.io.IOException;
import java.lang.reflect.Constructor;
import java.lang.reflect.Field;
import java.lang.reflect.Method;
import java.lang.reflect.Modifier;
import java.nio.file.Files;
import java.nio.file.Path;
import java.util.ArrayList;
import java.util.Arrays;
import java.util.List;

/** Rules of LANGUAGE.md that can be read off the program's lines and classes. */
public final class LanguageTest {
    private static final Path PROGRAM = Path.of("src", "main", "java", "TwinRooms.java");
    private static final int LONGEST_METHOD = 60;
    private static final int MOST_PARAMETERS = 7;
    private static final int MOST_FIELDS = 20;
    private static final String[] FORBIDDEN = {
        "import ", "package ", "->", "::", "finally", "synchronized", "assert ", "try ", "System.",
        "Thread", "Random", "Object", ".equals(", ".hashCode(", ".toString(", "static {", "Exact(",
        "float ", "double ", "while (true)", "for (;;)", "null",
    };
    private static final String[] THROWN = {
        "throw new IllegalArgumentException();", "throw new IllegalStateException();",
    };

    public static void main(String[] args) throws IOException {
        lines(Files.readAllLines(PROGRAM));
        List<Class<?>> classes = new ArrayList<>(Arrays.asList(TwinRooms.class.getDeclaredClasses()));
        classes.add(TwinRooms.class);
        for (Class<?> one : classes) {
            Due.on(one.getName());
            fields(one);
            methods(one);
        }
        Due.end();
    }

    private static void lines(List<String> lines) {
        Due.on("language");
        int start = 0;
        for (int n = 0; n < lines.size(); n++) {
            String line = lines.get(n);
            String number = "line " + (n + 1);
            for (String word : FORBIDDEN) {
                Due.no(number + " has " + word, line.contains(word));
            }
            if (line.contains("throw ")) {
                Due.yes(number + " throws as rule 6 says", Arrays.asList(THROWN).contains(line.trim()));
            }
            Due.yes(number + " is no wider than 110", line.length() <= 110);
            if (line.isEmpty()) {
                start = n;
            }
            Due.yes(number + " ends no long method", n - start <= LONGEST_METHOD);
        }
    }

    private static void fields(Class<?> one) {
        int own = 0;
        for (Field field : one.getDeclaredFields()) {
            Class<?> kind = field.getType();
            if (Modifier.isStatic(field.getModifiers())) {
                Due.yes("a constant: " + field, Modifier.isFinal(field.getModifiers()) && isConstant(kind));
            } else {
                own++;
                Due.yes("of a kind that rule 3 knows: " + field,
                        isKnown(kind) || kind.isArray() && isKnown(kind.getComponentType()));
            }
        }
        Due.yes("some twenty fields: " + own, own <= MOST_FIELDS);
    }

    private static boolean isConstant(Class<?> kind) {
        return kind == int.class || kind == long.class || kind == boolean.class;
    }

    private static boolean isKnown(Class<?> kind) {
        return isConstant(kind) || kind.getEnclosingClass() == TwinRooms.class;
    }

    private static void methods(Class<?> one) {
        for (Method method : one.getDeclaredMethods()) {
            Due.yes("seven parameters: " + method, method.getParameterCount() <= MOST_PARAMETERS);
            for (Class<?> thrown : method.getExceptionTypes()) {
                Due.yes("throws what the document says: " + method,
                        thrown == IllegalArgumentException.class || thrown == IllegalStateException.class);
            }
        }
        for (Constructor<?> constructor : one.getDeclaredConstructors()) {
            Due.is("throws nothing: " + constructor, 0, constructor.getExceptionTypes().length);
        }
    }
}
