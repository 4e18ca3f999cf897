import java.io.IOException;
import java.lang.reflect.Method;
import java.lang.reflect.Modifier;
import java.nio.file.Files;
import java.nio.file.Path;
import java.util.List;
import java.util.stream.Collectors;
import java.util.stream.Stream;

/** README.md: its example does what it says, and it names every call and every file of the tests. */
public final class ReadmeTest {
    private static final Path TESTS = Path.of("src", "test", "java");

    public static void main(String[] args) throws IOException {
        String readme = Files.readString(Path.of("README.md"));
        example();
        exampleIsTheOneAbove(readme);
        everyCall(readme);
        everyTest(readme);
        Due.end();
    }

    private static void example() {
        Due.on("example");
        TwinRooms x = new TwinRooms();
        x.road(2, 1, 5);
        x.unit(0, 2, 2);
        x.status(0, 0);
        Due.is("letters", 2, x.letters());
        x.deliver(0);
        Due.is("room 0 knows of it", 0, x.unitKnown(0, 0, 0));
        Due.is("the letter to room 1 is number 0 now", 1, x.letter(0, 2));
        x.ask(0, 0);
        x.deliver(1);
        x.deliver(1);
        Due.is("grantOf(0, 0)", 1, x.grantOf(0, 0));
        int call = x.take(0, 1, 77);
        Due.is("call", 0, call);
        int unit = x.order(0, call);
        Due.is("unit", 0, unit);
        x.deliver(2);
        Due.is("MOVING", 1, x.unitIs(0, 0));
        x.status(0, 2);
        Due.is("AT SCENE", 2, x.unitIs(0, 0));
        x.status(0, 0);
        Due.is("FREE again", 0, x.unitIs(0, 0));
        x.close(0, call);
        Due.is("CLOSED", 2, x.callKnown(0, call, 3));
    }

    /** Each of its lines is run above, in the same order, and none else but those with Due. */
    private static void exampleIsTheOneAbove(String readme) throws IOException {
        Due.on("the example in README.md");
        String source = Files.readString(TESTS.resolve("ReadmeTest.java"));
        String above = source.substring(source.indexOf("TwinRooms x ="), source.indexOf("/** Each of its"));
        List<String> run = statements(above);
        List<String> told = statements(readme.substring(readme.indexOf("```java"), readme.lastIndexOf("```")));
        Due.yes("there is one", told.size() > 5);
        Due.yes(told + " is " + run, told.equals(run));
    }

    private static List<String> statements(String text) {
        return text.lines()
                .map(line -> line.replaceAll("//.*", "").trim())
                .filter(line -> line.endsWith(";") && !line.startsWith("Due"))
                .collect(Collectors.toList());
    }

    private static void everyCall(String readme) {
        Due.on("README.md names");
        for (Method method : TwinRooms.class.getDeclaredMethods()) {
            if (Modifier.isPublic(method.getModifiers())) {
                Due.yes(method.getName(), readme.contains("`" + method.getName() + "`"));
            }
        }
    }

    private static void everyTest(String readme) throws IOException {
        try (Stream<Path> files = Files.list(TESTS)) {
            for (Path file : files.collect(Collectors.toList())) {
                String name = file.getFileName().toString().replace(".java", "");
                Due.yes(name, readme.contains("`" + name + "`"));
            }
        }
    }
}
