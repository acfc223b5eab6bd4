import java.io.IOException;
import java.io.UncheckedIOException;
import java.lang.reflect.Field;
import java.lang.reflect.Method;
import java.lang.reflect.Modifier;
import java.net.URL;
import java.net.URLClassLoader;
import java.nio.file.Files;
import java.nio.file.Path;
import java.util.ArrayList;
import java.util.Comparator;
import java.util.List;
import java.util.function.Supplier;
import java.util.regex.Matcher;
import java.util.regex.Pattern;
import java.util.stream.Stream;
import javax.tools.ToolProvider;

/** README.md: its program answers as it says, and each call, constant and test is named there. */
public final class ReadmeTest {
    private static final Path PAGE = Path.of("README.md");
    private static final Path TESTS = Path.of("src/test/java");
    private static final Pattern ASKED = Pattern.compile("(school\\.\\w+\\(.*\\)); *// (-?\\d+): .*");
    private static final int FEWEST = 40;

    private ReadmeTest() {
    }

    public static void main(String[] args) throws Exception {
        List<String> page = Files.readAllLines(PAGE);
        program(page);
        String text = String.join("\n", page);
        named(text);
        testsNamed(text);
        Check.end("ReadmeTest");
    }

    /** The lines of the page's java blocks, one behind the other, made into a program that tells its answers. */
    private static void program(List<String> page) throws Exception {
        StringBuilder body = new StringBuilder();
        boolean inside = false;
        int asked = 0;
        for (String line : page) {
            if (line.startsWith("```")) {
                inside = line.equals("```java");
            } else if (inside) {
                Matcher call = ASKED.matcher(line);
                boolean asks = call.matches();
                asked += asks ? 1 : 0;
                Check.holds(line + ": an answer stands behind it", asks || !line.startsWith("school."));
                body.append(asks ? tells(asked, call.group(1), call.group(2)) : line).append('\n');
            }
        }
        Check.holds("the page has a program", asked >= FEWEST);
        run("public final class ReadmeProgram implements java.util.function.Supplier<java.util.List<String[]>> {\n"
            + "public java.util.List<String[]> get() {\n"
            + "java.util.List<String[]> told = new java.util.ArrayList<>();\n" + body + "return told;\n}\n}\n");
    }

    private static String tells(int number, String call, String want) {
        String name = "README.md, call " + number + ", " + call;
        return "told.add(new String[] {\"" + name + "\", String.valueOf(" + call + "), \"" + want + "\"});";
    }

    private static void run(String program) throws Exception {
        Path directory = Files.createTempDirectory("readme");
        try {
            Path file = Files.writeString(directory.resolve("ReadmeProgram.java"), program);
            int failed = ToolProvider.getSystemJavaCompiler().run(null, null, null, "-d", directory.toString(),
                "-cp", System.getProperty("java.class.path"), file.toString());
            Check.due("the page's program compiles", failed, 0);
            if (failed == 0) {
                answers(directory);
            }
        } finally {
            remove(directory);
        }
    }

    private static void answers(Path directory) throws Exception {
        try (URLClassLoader loader = new URLClassLoader(new URL[] {directory.toUri().toURL()})) {
            Object made = loader.loadClass("ReadmeProgram").getDeclaredConstructor().newInstance();
            for (Object one : (List<?>) ((Supplier<?>) made).get()) {
                String[] told = (String[]) one;
                Check.due(told[0], Long.parseLong(told[1]), Long.parseLong(told[2]));
            }
        }
    }

    private static void remove(Path directory) throws IOException {
        List<Path> paths = new ArrayList<>();
        try (Stream<Path> found = Files.walk(directory)) {
            found.forEach(paths::add);
        }
        paths.sort(Comparator.reverseOrder());
        for (Path path : paths) {
            Files.delete(path);
        }
    }

    /** Each call stands in the program; each refusal, in the table. */
    private static void named(String text) throws IllegalAccessException {
        for (Method method : UrchinSchool.class.getDeclaredMethods()) {
            if (Modifier.isPublic(method.getModifiers())) {
                Check.holds(method.getName() + " is called", text.contains("school." + method.getName() + "("));
            }
        }
        for (Field field : UrchinSchool.class.getDeclaredFields()) {
            if (Modifier.isPublic(field.getModifiers())) {
                boolean least = field.getLong(null) == Long.MIN_VALUE;
                String value = least ? "`Long.MIN_VALUE`" : String.valueOf(field.getLong(null));
                String row = "| " + value + " | `" + field.getName() + "` |";
                Check.holds(row + " stands in the table", text.contains(row));
            }
        }
    }

    private static void testsNamed(String text) {
        try (Stream<Path> files = Files.list(TESTS)) {
            files.map(file -> file.getFileName().toString()).filter(name -> name.endsWith("Test.java")).sorted()
                .forEach(name -> Check.holds(name + " is told of",
                    text.contains("\n- `" + name.substring(0, name.length() - ".java".length()) + "`: ")));
        } catch (IOException e) {
            throw new UncheckedIOException(e);
        }
    }
}
