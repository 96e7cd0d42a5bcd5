import java.io.IOException;
import java.lang.reflect.Field;
import java.lang.reflect.Modifier;
import java.net.URL;
import java.net.URLClassLoader;
import java.nio.file.Files;
import java.nio.file.Path;
import java.util.ArrayList;
import java.util.Comparator;
import java.util.List;
import java.util.Set;
import java.util.TreeSet;
import java.util.regex.Matcher;
import java.util.regex.Pattern;
import java.util.stream.Stream;
import javax.tools.ToolProvider;

/** What README.md says that calls answer is what they answer, and its tables and names are right. */
public final class ReadmeTests {
    private static final Path README = Path.of("README.md");
    private static final Path SOURCE = Path.of("src/main/java/MultiValueFile.java");
    private static final Path DOCUMENT = Path.of("../shared/DOC.md");
    private static final Path TESTS = Path.of("src/test/java");
    // A call of the examples, and behind it its answer, with or without words on it.
    private static final Pattern EXAMPLE = Pattern.compile("(file\\.\\w+\\(.*\\)); +// (-?[\\d.]+f?|[A-Z_]+)(: .*)?");
    private static final int FEWEST_EXAMPLES = 60;

    private static int checked = 0;
    private static int wrong = 0;

    public static void main(String[] args) throws Exception {
        String page = Files.readString(README);
        examples(page);
        constants(page);
        calls(page);
        tests(page);
        System.out.println(checked - wrong + " words of the page hold, " + wrong + " do not");
        if (wrong != 0) {
            System.exit(1);
        }
    }

    private static void check(boolean holds, String what) {
        checked++;
        if (!holds) {
            wrong++;
            System.out.println("not so: " + what);
        }
    }

    /** The examples call this, compiled as one program. */
    public static void due(String call, double got, double want) {
        check(got == want, call + " answered " + got + ", the page says " + want);
    }

    // ---- the examples

    private static void examples(String page) throws Exception {
        Path folder = Files.createTempDirectory("readme");
        try {
            Path program = folder.resolve("Examples.java");
            Files.writeString(program, programOf(page));
            int ended = ToolProvider.getSystemJavaCompiler().run(null, null, null, "--release", "17",
                    "-implicit:none", "-cp", System.getProperty("java.class.path"), "-d", folder.toString(), program.toString());
            check(ended == 0, "the examples compile");
            if (ended == 0) {
                run(folder);
            }
        } finally {
            drop(folder);
        }
    }

    private static String programOf(String page) {
        StringBuilder program = new StringBuilder("public final class Examples {\n");
        for (Field constant : constantsOfTheFace()) {
            String name = constant.getName();
            program.append("    static final int ").append(name).append(" = MultiValueFile.").append(name).append(";\n");
        }
        program.append("    public static void run() {\n");
        int found = 0;
        for (String line : linesOfExamples(page)) {
            Matcher example = EXAMPLE.matcher(line);
            if (example.matches()) {
                found++;
                String call = example.group(1);
                program.append("ReadmeTests.due(\"").append(call).append("\", ").append(call).append(", ");
                program.append(example.group(2)).append(");\n");
            } else {
                check(!line.contains("//"), "an answer stands behind: " + line);
                program.append(line).append('\n');
            }
        }
        check(found >= FEWEST_EXAMPLES, "there are at least " + FEWEST_EXAMPLES + " answers, and not " + found);
        return program.append("    }\n}\n").toString();
    }

    private static List<String> linesOfExamples(String page) {
        List<String> lines = new ArrayList<>();
        boolean isInside = false;
        for (String line : page.split("\n")) {
            if (line.startsWith("```")) {
                isInside = line.equals("```java");
            } else if (isInside) {
                lines.add(line);
            }
        }
        return lines;
    }

    private static void run(Path folder) throws Exception {
        URL[] places = {folder.toUri().toURL()};
        try (URLClassLoader loader = new URLClassLoader(places, ReadmeTests.class.getClassLoader())) {
            int before = checked;
            loader.loadClass("Examples").getMethod("run").invoke(null);
            check(checked - before >= FEWEST_EXAMPLES, "all examples were run");
        }
    }

    private static void drop(Path folder) throws IOException {
        try (Stream<Path> all = Files.walk(folder)) {
            for (Path path : all.sorted(Comparator.reverseOrder()).toList()) {
                Files.delete(path);
            }
        }
    }

    // ---- the tables

    private static List<Field> constantsOfTheFace() {
        return Stream.of(MultiValueFile.class.getDeclaredFields())
                .filter(field -> Modifier.isPublic(field.getModifiers())).toList();
    }

    private static void constants(String page) throws IllegalAccessException {
        for (Field constant : constantsOfTheFace()) {
            String row = "| `" + constant.getName() + "` | " + constant.getInt(null) + " | ";
            check(page.contains(row), "there is the row " + row);
        }
        check(page.split("\\| `[A-Z_]+` \\|").length - 1 == constantsOfTheFace().size(), "there are no other constants");
    }

    /** The table has each method of the face in the order of the source, with its arguments and error codes. */
    private static void calls(String page) throws IOException {
        List<String> want = new ArrayList<>();
        Matcher method = Pattern.compile("public \\w+ (\\w+)\\((.*)\\) \\{").matcher(Files.readString(SOURCE));
        while (method.find()) {
            String name = method.group(1);
            String arguments = method.group(2).replaceAll("(int|boolean) ", "");
            want.add(name + "(" + arguments + ") " + errorCodes(name));
            check(page.contains("file." + name + "("), "there is an example of " + name);
        }
        List<String> got = new ArrayList<>();
        Matcher row = Pattern.compile("\\| `(\\w+\\(.*?\\))` \\| [^|]+ \\| (.*?) ?\\|\n").matcher(page);
        while (row.find()) {
            got.add(row.group(1) + " " + row.group(2));
        }
        check(got.equals(want), "the calls are " + want + " and not " + got);
    }

    /** The codes in the order in which the document names them. */
    private static String errorCodes(String method) throws IOException {
        String promise = Files.readString(DOCUMENT).split("## Promise \\d+: " + method + "\n")[1].split("\n## ")[0];
        String answers = promise.substring(promise.lastIndexOf("\nReturns "));
        StringBuilder codes = new StringBuilder();
        Matcher code = Pattern.compile("; ([A-Z_]{3,})").matcher(answers);
        while (code.find()) {
            if (!code.group(1).equals("NONE")) {
                codes.append(codes.length() > 0 ? ", " : "").append(code.group(1));
            }
        }
        return codes.toString();
    }

    // ---- the tests

    private static void tests(String page) throws IOException {
        Set<String> named = new TreeSet<>();
        Matcher name = Pattern.compile("- `(\\w+Tests)`: ").matcher(page);
        while (name.find()) {
            named.add(name.group(1) + ".java");
        }
        Set<String> there = new TreeSet<>();
        try (Stream<Path> all = Files.list(TESTS)) {
            for (Path path : all.toList()) {
                String file = path.getFileName().toString();
                if (file.endsWith("Tests.java")) {
                    there.add(file);
                } else {
                    check(page.contains("`" + file.replace(".java", "") + "` ("), "the page tells what " + file + " is");
                }
            }
        }
        check(named.equals(there), "the tests are " + there + " and not " + named);
        check(Files.isExecutable(Path.of(".ci/run")), ".ci/run can be run");
        check(page.contains("\n    .ci/run\n"), "the page tells how to run all tests");
    }
}
