import java.io.ByteArrayOutputStream;
import java.io.IOException;
import java.io.PrintStream;
import java.lang.reflect.Field;
import java.lang.reflect.Method;
import java.lang.reflect.Modifier;
import java.net.URL;
import java.net.URLClassLoader;
import java.nio.file.Files;
import java.nio.file.Path;
import java.util.Set;
import java.util.TreeSet;
import java.util.regex.Matcher;
import java.util.regex.Pattern;
import javax.tools.ToolProvider;

/** README.md says what is so: its program compiles and prints what it says, and all calls are named. */
public final class ReadmeTests {
    private static final Path FOLDER = Path.of("build/readme");

    private static int wrong = 0;

    private static void same(String what, Object got, Object want) {
        if (!got.equals(want)) {
            wrong++;
            System.out.println(what + " is\n" + got + "\ndue is\n" + want);
        }
    }

    /** The first block of a kind, without the marks around it. */
    private static String block(String readme, String kind) {
        Matcher block = Pattern.compile("(?ms)^```" + kind + "\n(.*?)^```$").matcher(readme);
        return block.find() ? block.group(1) : "";
    }

    private static void theProgramPrintsWhatItSays(String readme) throws Exception {
        Files.createDirectories(FOLDER);
        Path program = FOLDER.resolve("Example.java");
        Files.writeString(program, block(readme, "java"));
        int compiled = ToolProvider.getSystemJavaCompiler().run(null, null, null,
            "-cp", System.getProperty("java.class.path"), "-d", FOLDER.toString(), program.toString());
        same("what javac answers to the program", compiled, 0);
        if (compiled == 0) {
            same("what the program prints", printed(), block(readme, "text"));
        }
    }

    private static String printed() throws Exception {
        PrintStream out = System.out;
        ByteArrayOutputStream caught = new ByteArrayOutputStream();
        try (URLClassLoader loader = new URLClassLoader(new URL[] {FOLDER.toUri().toURL()});
             PrintStream instead = new PrintStream(caught)) {
            System.setOut(instead);
            loader.loadClass("Example").getMethod("main", String[].class).invoke(null, (Object) new String[0]);
        } finally {
            System.setOut(out);
        }
        return caught.toString().replace(System.lineSeparator(), "\n");
    }

    private static void allCallsAreNamed(String readme) {
        Set<String> named = new TreeSet<>();
        Matcher row = Pattern.compile("(?m)^\\| `(\\w+)\\((.*?)\\)` \\|").matcher(readme);
        while (row.find()) {
            int numbers = row.group(2).isEmpty() ? 0 : row.group(2).split(", ").length;
            named.add(row.group(1) + " " + numbers);
        }
        Set<String> calls = new TreeSet<>();
        for (Method method : DelayClusters.class.getDeclaredMethods()) {
            if (Modifier.isPublic(method.getModifiers())) {
                calls.add(method.getName() + " " + method.getParameterCount());
            }
        }
        same("the calls in the table, with how many numbers they take,", named, calls);
    }

    private static void allConstantsAreNamed(String readme) throws IllegalAccessException {
        Set<String> named = new TreeSet<>();
        Matcher row = Pattern.compile("(?m)^\\| `(\\w+)` \\| (-?\\d+) \\|").matcher(readme);
        while (row.find()) {
            named.add(row.group(1) + " " + row.group(2));
        }
        Set<String> constants = new TreeSet<>();
        for (Field field : DelayClusters.class.getFields()) {
            constants.add(field.getName() + " " + field.getInt(null));
        }
        same("the constants in the table", named, constants);
    }

    private static void allTestsAreNamed(String readme) throws IOException {
        Set<String> named = new TreeSet<>();
        Matcher item = Pattern.compile("(?m)^- `(\\w+Tests)`:").matcher(readme);
        while (item.find()) {
            named.add(item.group(1) + ".java");
        }
        Set<String> tests = new TreeSet<>();
        try (var files = Files.list(Path.of("src/test/java"))) {
            files.forEach(file -> tests.add(file.getFileName().toString()));
        }
        same("the list of tests", named, tests);
    }

    public static void main(String[] args) throws Exception {
        String readme = Files.readString(Path.of("README.md"));
        theProgramPrintsWhatItSays(readme);
        allCallsAreNamed(readme);
        allConstantsAreNamed(readme);
        allTestsAreNamed(readme);
        System.out.println(wrong == 0 ? "README says what is so" : wrong + " things in README are not so");
        if (wrong != 0) {
            System.exit(1);
        }
    }
}
