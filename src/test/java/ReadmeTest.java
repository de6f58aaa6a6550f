import java.io.IOException;
import java.net.URL;
import java.net.URLClassLoader;
import java.nio.file.Files;
import java.nio.file.Path;
import java.nio.file.Paths;
import java.util.Comparator;
import java.util.List;
import java.util.regex.Matcher;
import java.util.regex.Pattern;
import java.util.spi.ToolProvider;
import java.util.stream.Collectors;
import java.util.stream.Stream;

/** The example of README.md, made a program and carried out: each call has to answer what stands behind it. */
public final class ReadmeTest {
    private static final Path README = Paths.get("README.md");
    private static final Pattern CODE = Pattern.compile("(?s)```java\n(.*?)```");
    private static final Pattern CALL = Pattern.compile("(loom\\..*);\\s*// (-?\\d+)");

    private static int answers = 0;

    private ReadmeTest() {
    }

    /** The lines of all pieces of code, one behind the other; those that tell an answer ask whether it is due. */
    private static String program(String readme) {
        StringBuilder program = new StringBuilder("public final class Readme {\n    public static void main(String[] args) {\n");
        Matcher code = CODE.matcher(readme);
        while (code.find()) {
            for (String line : code.group(1).split("\n")) {
                Matcher call = CALL.matcher(line);
                if (call.matches()) {
                    answers++;
                    String name = call.group(1).replace("\"", "\\\"");
                    line = "check(\"README.md: " + name + "\", " + call.group(1) + ", " + call.group(2) + ");";
                }
                program.append(line).append('\n');
            }
        }
        return program + "    }\n    static void check(String call, long got, long want) {\n        if (got != want) {\n"
                + "            throw new RuntimeException(call + \" answered \" + got + \", README.md says \" + want);\n"
                + "        }\n    }\n}\n";
    }

    private static void carryOut(Path directory, String program) throws Exception {
        Path source = directory.resolve("Readme.java");
        Files.writeString(source, program);
        String classes = System.getProperty("java.class.path");
        ToolProvider javac = ToolProvider.findFirst("javac").orElse(null);
        if (javac == null
                || javac.run(System.out, System.out, "-cp", classes, "-d", directory.toString(), source.toString()) != 0) {
            Due.fault("the example of README.md cannot be compiled");
            return;
        }
        try (URLClassLoader loader = new URLClassLoader(new URL[] {directory.toUri().toURL()})) {
            loader.loadClass("Readme").getMethod("main", String[].class).invoke(null, (Object) new String[0]);
        } catch (java.lang.reflect.InvocationTargetException e) {
            Due.fault(String.valueOf(e.getCause()));
        }
    }

    private static void delete(Path directory) throws IOException {
        List<Path> paths;
        try (Stream<Path> below = Files.walk(directory)) {
            paths = below.sorted(Comparator.reverseOrder()).collect(Collectors.toList());
        }
        for (Path path : paths) {
            Files.delete(path);
        }
    }

    /** The README tells of each call of the face, and of each test. */
    private static void isComplete(String readme) throws IOException {
        for (java.lang.reflect.Method method : MirrorLoom.class.getDeclaredMethods()) {
            if (java.lang.reflect.Modifier.isPublic(method.getModifiers()) && !readme.contains("`" + method.getName() + "`")) {
                Due.fault("README.md does not tell of " + method.getName());
            }
        }
        try (Stream<Path> tests = Files.list(Paths.get("src/test/java"))) {
            for (Path test : tests.collect(Collectors.toList())) {
                String name = test.getFileName().toString().replace(".java", "");
                if (!readme.contains("`" + name + "`")) {
                    Due.fault("README.md does not tell of " + name);
                }
            }
        }
    }

    public static void main(String[] args) throws Exception {
        String readme = Files.readString(README);
        isComplete(readme);
        String program = program(readme);
        Due.same("answers that README.md tells are found", answers > 20 ? 1 : 0, 1);
        Path directory = Files.createTempDirectory("readme");
        try {
            carryOut(directory, program);
        } finally {
            delete(directory);
        }
        Due.end("ReadmeTest");
    }
}
