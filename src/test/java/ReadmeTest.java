import java.io.ByteArrayOutputStream;
import java.io.IOException;
import java.io.PrintStream;
import java.lang.reflect.Method;
import java.net.URL;
import java.net.URLClassLoader;
import java.nio.file.Files;
import java.nio.file.Path;
import java.util.ArrayList;
import java.util.List;
import java.util.regex.Matcher;
import java.util.regex.Pattern;
import java.util.stream.Stream;
import javax.tools.ToolProvider;

/** README.md keeps what it says: its example gives the answers written there, and it names what there is. */
public final class ReadmeTest {
    private static final Check CHECK = new Check();

    private ReadmeTest() {
    }

    public static void main(String[] args) throws IOException, ReflectiveOperationException {
        Path path = Path.of(System.getProperty("readme", "README.md"));
        String readme = Files.readString(path);
        example(readme);
        namesEachCall(readme);
        namesEachTest(readme, path.toAbsolutePath().resolveSibling("src/test/java"));
        CHECK.close("ReadmeTest");
    }

    /** Each println of the example has its answer behind '//', up to a colon. */
    private static void example(String readme) throws IOException, ReflectiveOperationException {
        Matcher block = Pattern.compile("(?s)```java\n(.*?)```").matcher(readme);
        boolean found = block.find();
        CHECK.due("README.md has an example", found, true);
        if (!found) {
            return;
        }
        String[] printed = run(block.group(1)).split("\\R");
        List<String> calls = new ArrayList<>();
        List<String> answers = new ArrayList<>();
        Matcher line = Pattern.compile("println\\((.*)\\);(?: *// ([^:\n]*))?").matcher(block.group(1));
        while (line.find()) {
            calls.add(line.group(1));
            answers.add(String.valueOf(line.group(2)));
        }
        CHECK.due("the example prints as many answers as it tells", printed.length, answers.size());
        for (int i = 0; i < Math.min(printed.length, answers.size()); i++) {
            String told = calls.get(i) + ", told as " + answers.get(i) + ", printed " + printed[i];
            CHECK.due(told, printed[i].equals(answers.get(i)), true);
        }
    }

    private static String run(String source) throws IOException, ReflectiveOperationException {
        Path room = Files.createTempDirectory("readme");
        Path file = Files.writeString(room.resolve("Example.java"), source);
        String[] options = {"-cp", System.getProperty("java.class.path"), "-d", room.toString(), file.toString()};
        int code = ToolProvider.getSystemJavaCompiler().run(null, null, null, options);
        CHECK.due("the compiler's exit code for the example", code, 0);
        String printed = code == 0 ? printedBy(room) : "";
        try (Stream<Path> made = Files.list(room)) {
            for (Path each : made.toList()) {
                Files.delete(each);
            }
        }
        Files.delete(room);
        return printed;
    }

    private static String printedBy(Path room) throws IOException, ReflectiveOperationException {
        PrintStream usual = System.out;
        ByteArrayOutputStream caught = new ByteArrayOutputStream();
        try (URLClassLoader loader = new URLClassLoader(new URL[] {room.toUri().toURL()})) {
            Method main = loader.loadClass("Example").getMethod("main", String[].class);
            System.setOut(new PrintStream(caught, true));
            main.invoke(null, (Object) new String[0]);
        } finally {
            System.setOut(usual);
        }
        return caught.toString();
    }

    private static void namesEachCall(String readme) {
        for (Method method : ModuleRows.class.getMethods()) {
            if (method.getDeclaringClass() == ModuleRows.class) {
                String name = "`" + method.getName() + "`";
                CHECK.due("README.md names " + name, readme.contains(name), true);
            }
        }
    }

    private static void namesEachTest(String readme, Path tests) throws IOException {
        try (Stream<Path> files = Files.list(tests)) {
            for (Path file : files.toList()) {
                String name = file.getFileName().toString().replace(".java", "");
                boolean named = !name.endsWith("Test") || readme.contains("\n- `" + name + "`:");
                CHECK.due("README.md tells of " + name, named, true);
            }
        }
        Matcher told = Pattern.compile("\n- `(\\w+)`:").matcher(readme);
        while (told.find()) {
            boolean there = Files.exists(tests.resolve(told.group(1) + ".java"));
            CHECK.due("there is a " + told.group(1), there, true);
        }
    }
}
