import java.io.ByteArrayOutputStream;
import java.io.IOException;
import java.io.PrintStream;
import java.lang.reflect.Field;
import java.lang.reflect.Modifier;
import java.net.URL;
import java.net.URLClassLoader;
import java.nio.charset.StandardCharsets;
import java.nio.file.Files;
import java.nio.file.Path;
import java.util.ArrayList;
import java.util.List;
import java.util.regex.Matcher;
import java.util.regex.Pattern;
import javax.tools.ToolProvider;

/** What README.md shows must hold when it is tried, and must name all that the document's face has. */
public final class ReadmeTests {
    private static final Checks CHECKS = new Checks("ReadmeTests");
    private static final Pattern CONSTANT = Pattern.compile("\\b(UNKNOWN|OUT_OF_RANGE|FULL|NOT_POSSIBLE|NONE)\\b");
    private static final Pattern METHOD = Pattern.compile("public int (\\w+)\\((.*)\\);");

    public static void main(String[] args) throws Exception {
        String readme = Files.readString(Path.of("README.md"), StandardCharsets.UTF_8);
        String document = Files.readString(Path.of("../shared/DOC.md"), StandardCharsets.UTF_8);
        example(block(readme, "java"), block(readme, "text"));
        constants(readme);
        methods(readme, document);
        tests(readme);
        CHECKS.end();
    }

    /** The first block of a language, without the lines that enclose it. */
    private static String block(String text, String language) {
        Matcher matcher = Pattern.compile("(?s)```" + language + "\n(.*?)```").matcher(text);
        return matcher.find() ? matcher.group(1) : "";
    }

    private static void example(String program, String due) throws Exception {
        Path directory = Files.createTempDirectory("readme");
        Path source = directory.resolve("Example.java");
        Files.writeString(source, program, StandardCharsets.UTF_8);
        int status = ToolProvider.getSystemJavaCompiler().run(null, null, null, "--release", "17",
                "-cp", System.getProperty("java.class.path"), "-d", directory.toString(), source.toString());
        CHECKS.that("the example does not compile", status == 0);
        if (status == 0) {
            String printed = printedByExample(directory);
            CHECKS.that("the example prints\n" + printed + "and not\n" + due, printed.equals(due));
        }
        removeAll(directory);
    }

    private static String printedByExample(Path directory) throws Exception {
        PrintStream before = System.out;
        ByteArrayOutputStream printed = new ByteArrayOutputStream();
        try (URLClassLoader loader = new URLClassLoader(new URL[] {directory.toUri().toURL()})) {
            System.setOut(new PrintStream(printed, true, StandardCharsets.UTF_8));
            loader.loadClass("Example").getMethod("main", String[].class).invoke(null, (Object) new String[0]);
        } finally {
            System.setOut(before);
        }
        return printed.toString(StandardCharsets.UTF_8).replace(System.lineSeparator(), "\n");
    }

    private static void removeAll(Path directory) throws IOException {
        List<Path> files;
        try (var found = Files.list(directory)) {
            files = found.toList();
        }
        for (Path file : files) {
            Files.delete(file);
        }
        Files.delete(directory);
    }

    private static void constants(String readme) throws IllegalAccessException {
        for (Field field : CarpetCrosses.class.getDeclaredFields()) {
            if (Modifier.isPublic(field.getModifiers())) {
                String row = "| `" + field.getName() + "` | " + field.getInt(null) + " |";
                CHECKS.that("there is no row " + row, readme.contains("\n" + row));
            }
        }
    }

    /** Each method of the document's face has a row, with the errors of its promise in their order. */
    private static void methods(String readme, String document) {
        Matcher method = METHOD.matcher(block(document, "java"));
        int methods = 0;
        while (method.find()) {
            String call = method.group(1) + "(" + method.group(2).replaceAll("(int|char) ", "") + ")";
            String row = rowOf(readme, call);
            CHECKS.that("there is no row of " + call, !row.isEmpty());
            namesTheConstantsOf(row, sectionOf(document, method.group(1)));
            methods++;
        }
        CHECKS.due("how many methods the face has", methods, 23);
    }

    private static String rowOf(String readme, String call) {
        for (String line : readme.split("\n")) {
            if (line.startsWith("| `" + call + "` |")) {
                return line;
            }
        }
        return "";
    }

    private static String sectionOf(String document, String method) {
        Matcher matcher = Pattern.compile("(?s)\n## Promise \\d+: " + method + "\n(.*?)\n## ").matcher(document);
        return matcher.find() ? matcher.group(1) : "";
    }

    private static void namesTheConstantsOf(String row, String section) {
        CHECKS.that("a promise of " + row + " was not found", !section.isEmpty());
        CHECKS.that("NONE should be in " + row + ", or should not", row.contains("NONE") == section.contains("NONE"));
        CHECKS.that("the errors of " + row + " are " + errorsIn(section), errorsIn(row).equals(errorsIn(section)));
    }

    /** Each once, in the order in which they stand there first; NONE is no error. */
    private static List<String> errorsIn(String text) {
        List<String> errors = new ArrayList<>();
        Matcher matcher = CONSTANT.matcher(text);
        while (matcher.find()) {
            if (!matcher.group().equals("NONE") && !errors.contains(matcher.group())) {
                errors.add(matcher.group());
            }
        }
        return errors;
    }

    /** Each test program is told of, and each test that is named, is there. */
    private static void tests(String readme) throws IOException, ClassNotFoundException {
        try (var files = Files.list(Path.of("src/test/java"))) {
            for (Path file : files.toList()) {
                String name = file.getFileName().toString().replace(".java", "");
                CHECKS.that(name + " is not told of", !name.endsWith("Tests") || readme.contains("- `" + name + "`")
                        || readme.contains(", `" + name + "`") || readme.contains("  `" + name + "`"));
            }
        }
        Matcher matcher = Pattern.compile("java -cp out (\\w+Tests) (\\w+)").matcher(readme);
        while (matcher.find()) {
            mustHaveATest(Class.forName(matcher.group(1)), matcher.group(2));
        }
    }

    private static void mustHaveATest(Class<?> tests, String begin) {
        boolean found = false;
        for (var method : tests.getDeclaredMethods()) {
            found |= method.getName().startsWith(begin);
        }
        CHECKS.that(tests.getSimpleName() + " has no test " + begin, found);
    }
}
