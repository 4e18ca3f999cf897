import java.io.IOException;
import java.nio.file.Files;
import java.nio.file.Path;
import java.util.List;

/** Rules of LANGUAGE.md that can be read off the program's lines. */
public final class LanguageTest {
    private static final Path PROGRAM = Path.of("src", "main", "java", "TwinRooms.java");
    private static final int LONGEST_METHOD = 60;
    private static final String[] FORBIDDEN = {
        "import ", "package ", "->", "::", "finally", "synchronized", "assert ", "try ", "System.",
        "Thread", "Random", "Object", ".equals(", ".hashCode(", ".toString(", "static {", "Exact(",
    };

    public static void main(String[] args) throws IOException {
        List<String> lines = Files.readAllLines(PROGRAM);
        Due.on("language");
        int start = 0;
        for (int n = 0; n < lines.size(); n++) {
            String line = lines.get(n);
            for (String word : FORBIDDEN) {
                Due.no("line " + (n + 1) + " has " + word, line.contains(word));
            }
            Due.yes("line " + (n + 1) + " is no wider than 110", line.length() <= 110);
            if (line.isEmpty()) {
                start = n;
            }
            Due.yes("line " + (n + 1) + " ends no long method", n - start <= LONGEST_METHOD);
        }
        Due.end();
    }
}
