import java.io.ByteArrayOutputStream;
import java.io.IOException;
import java.io.PrintStream;
import java.lang.reflect.Method;
import java.lang.reflect.Modifier;
import java.nio.file.Files;
import java.nio.file.Path;
import java.util.Collections;

/** What README.md shows must be so: its example, what that prints, and the table of all calls. */
public final class ReadmeTest {
    private static final Check CHECK = new Check("ReadmeTest");

    public static void main(String[] args) throws IOException {
        String readme = Files.readString(Path.of("README.md"));
        String example = Files.readString(Path.of("src/test/java/ReadmeExample.java"));
        CHECK.due("the example stands in the README", readme.contains("```java\n" + example + "```\n"), true);
        CHECK.due("what it prints, too", readme.contains("```text\n" + printed() + "```\n"), true);
        int calls = 0;
        for (Method method : DanceWine.class.getDeclaredMethods()) {
            if (Modifier.isPublic(method.getModifiers())) {
                calls++;
                CHECK.due(method.getName() + " is in the table", hasRow(readme, method), true);
            }
        }
        CHECK.due("public methods", calls, 24);
        CHECK.end();
    }

    private static String printed() {
        PrintStream before = System.out;
        ByteArrayOutputStream bytes = new ByteArrayOutputStream();
        System.setOut(new PrintStream(bytes, true));
        ReadmeExample.main(new String[0]);
        System.setOut(before);
        return bytes.toString().replace(System.lineSeparator(), "\n");
    }

    /** A row that names as many arguments as the method takes, and what it answers. */
    private static boolean hasRow(String readme, Method method) {
        String words = String.join(", ", Collections.nCopies(method.getParameterCount(), "\\w+"));
        String row = "\\| `" + method.getName() + "\\(" + words + "\\)` \\| " + method.getReturnType().getName() + " \\| .+ \\|";
        return readme.lines().anyMatch(line -> line.matches(row));
    }
}
