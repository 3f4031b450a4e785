import java.io.ByteArrayOutputStream;
import java.io.IOException;
import java.io.PrintStream;
import java.lang.reflect.Method;
import java.lang.reflect.Modifier;
import java.nio.file.Files;
import java.nio.file.Path;
import java.util.List;
import java.util.stream.Collectors;
import java.util.stream.Stream;

/** README.md: its program is Parade and prints what stands there, and its tables miss no call and no test. */
public final class ReadmeTest {
    private static final Path TESTS = Path.of("src/test/java");

    public static void main(String[] args) throws IOException {
        String readme = Files.readString(Path.of("README.md"));
        Due.is("the program is Parade", block(readme, "java").equals(Files.readString(TESTS.resolve("Parade.java"))), true);
        String printed = printedByParade();
        Due.is("the program prints '" + printed + "'", block(readme, "text").equals(printed), true);
        for (Method call : OathButtons.class.getDeclaredMethods()) {
            if (Modifier.isPublic(call.getModifiers())) {
                Due.is("a row tells what " + call.getName() + " is for", rowsWith(readme, call.getName()), 1);
            }
        }
        for (String test : testNames()) {
            Due.is("a row tells what " + test + " is for", rowsWith(readme, test), 1);
        }
        Due.endTest();
    }

    private static String block(String readme, String sort) {
        String fence = "```" + sort + "\n";
        int from = readme.indexOf(fence);
        int to = from < 0 ? -1 : readme.indexOf("```", from + fence.length());
        return to < 0 ? "no such block" : readme.substring(from + fence.length(), to);
    }

    private static String printedByParade() {
        PrintStream before = System.out;
        ByteArrayOutputStream bytes = new ByteArrayOutputStream();
        System.setOut(new PrintStream(bytes, true));
        try {
            Parade.main(new String[0]);
        } finally {
            System.setOut(before);
        }
        return bytes.toString().replace(System.lineSeparator(), "\n");
    }

    /** Rows of the tables in whose first column the name stands. */
    private static long rowsWith(String readme, String name) {
        return readme.lines().filter(line -> line.startsWith("| `") && line.split("\\|")[1].contains("`" + name + "`")).count();
    }

    private static List<String> testNames() throws IOException {
        try (Stream<Path> files = Files.list(TESTS)) {
            return files.map(file -> file.getFileName().toString()).filter(name -> name.endsWith("Test.java"))
                .map(name -> name.substring(0, name.length() - ".java".length())).sorted().collect(Collectors.toList());
        }
    }
}
