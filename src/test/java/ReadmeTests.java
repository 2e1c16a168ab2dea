import java.io.IOException;
import java.lang.reflect.Field;
import java.lang.reflect.Method;
import java.lang.reflect.Modifier;
import java.net.URL;
import java.net.URLClassLoader;
import java.nio.file.Files;
import java.nio.file.Path;
import java.util.Comparator;
import java.util.List;
import java.util.regex.Matcher;
import java.util.regex.Pattern;
import java.util.stream.Stream;
import javax.tools.ToolProvider;

/** README.md says how the class is used: what it says is held against the class. Runs in the project's folder. */
public final class ReadmeTests {
    private static final Pattern EXAMPLE = Pattern.compile("(?s)```java\n(.*?)```");
    private static final Pattern CALL =
        Pattern.compile("(?m)^(x\\.\\w+\\([^;\n]*\\)); +// (-?\\d+|BAD|NO|FULL|NONE)\\b");
    private static final Pattern ROW = Pattern.compile("(?m)^\\| `(\\w+)\\(([^)]*)\\)` \\| [^|]+ \\| ([^|]*)\\|$");
    // The refusals that the document names behind a call, as the last words of its promise.
    private static final Pattern PROMISE = Pattern.compile("(?m)^`int (\\w+)\\(([^)]*)\\)`: (.*)$");

    private static int wrong = 0;
    private static int checks = 0;

    private ReadmeTests() {
    }

    public static void main(String[] args) throws Exception {
        String readme = Files.readString(Path.of("README.md"));
        example(readme);
        constants(readme);
        rows(readme, Files.readString(Path.of("../shared/DOC.md")));
        due(readme.contains("    .ci/run\n"), "it says how the tests are run");
        tests(readme);
        System.out.println(checks + " checks, " + wrong + " wrong");
        if (wrong != 0) {
            System.exit(1);
        }
    }

    private static void due(boolean so, String what) {
        checks++;
        if (!so) {
            wrong++;
            System.out.println("README.md, not so: " + what);
        }
    }

    /** Called by the program that is made of the example. */
    public static void answered(String call, int got, int want) {
        due(got == want, call + " answered " + got + ", but " + want + " is written behind it");
    }

    private static void example(String readme) throws Exception {
        Matcher block = EXAMPLE.matcher(readme);
        if (!block.find()) {
            due(false, "there is an example");
            return;
        }
        Matcher call = CALL.matcher(block.group(1));
        long calls = call.results().count();
        due(calls >= 30, "the example has thirty calls with their answers");
        String body = call.reset().replaceAll(m -> Matcher.quoteReplacement(
            "ReadmeTests.answered(\"" + m.group(1) + "\", " + m.group(1) + ", " + value(m.group(2)) + ");//"));
        String program = "public final class ReadmeExample { public static void main(String[] args) {\n" + body + "}}\n";
        Path folder = Files.createTempDirectory("readme");
        int before = checks;
        try {
            run(program, folder);
        } finally {
            remove(folder);
        }
        due(checks - before == calls + 1, "each call of the example was answered");
    }

    private static String value(String word) {
        return word.matches("[A-Z]+") ? "GravesExchanged." + word : word;
    }

    private static void run(String program, Path folder) throws Exception {
        Path file = Files.writeString(folder.resolve("ReadmeExample.java"), program);
        String classes = System.getProperty("java.class.path");
        int code = ToolProvider.getSystemJavaCompiler().run(null, null, null, "-cp", classes, "-d", folder.toString(),
            file.toString());
        due(code == 0, "the example compiles");
        if (code == 0) {
            URL[] places = {folder.toUri().toURL()};
            try (URLClassLoader loader = new URLClassLoader(places, ReadmeTests.class.getClassLoader())) {
                loader.loadClass("ReadmeExample").getMethod("main", String[].class).invoke(null, (Object) new String[0]);
            }
        }
    }

    private static void remove(Path folder) throws IOException {
        try (Stream<Path> files = Files.walk(folder)) {
            List<Path> all = files.sorted(Comparator.reverseOrder()).toList();
            for (Path p : all) {
                Files.delete(p);
            }
        }
    }

    private static void constants(String readme) throws IllegalAccessException {
        for (Field f : GravesExchanged.class.getFields()) {
            String row = "| `" + f.getName() + "` | " + f.getInt(null) + " |";
            due(readme.contains(row), "the constant stands there as " + row);
        }
    }

    private static void rows(String readme, String document) {
        Matcher promise = PROMISE.matcher(document);
        int promises = 0;
        while (promise.find()) {
            promises++;
            String name = promise.group(1);
            String numbers = promise.group(2).replace("int ", "");
            String row = rowOf(readme, name, numbers);
            due(row != null, name + "(" + numbers + ") has a row");
            for (String word : new String[] {"BAD", "NO", "FULL", "NONE"}) {
                boolean isNamed = Pattern.compile("\\b" + word + "\\b").matcher(promise.group(3)).find();
                boolean isTold = row != null && row.contains("`" + word + "`");
                due(isNamed == isTold, name + ": " + word + " is " + (isNamed ? "" : "not ") + "named by the document");
            }
        }
        int calls = 0;
        for (Method m : GravesExchanged.class.getDeclaredMethods()) {
            calls += Modifier.isPublic(m.getModifiers()) ? 1 : 0;
        }
        due(promises == calls, "each call of the class has a promise, and a row");
    }

    private static String rowOf(String readme, String name, String numbers) {
        Matcher row = ROW.matcher(readme);
        while (row.find()) {
            if (row.group(1).equals(name) && row.group(2).equals(numbers)) {
                return row.group(3);
            }
        }
        return null;
    }

    private static void tests(String readme) throws IOException {
        try (Stream<Path> files = Files.list(Path.of("src/test/java"))) {
            for (Path p : files.toList()) {
                String name = p.getFileName().toString().replace(".java", "");
                due(readme.contains("\n- `" + name + "`: "), name + " is told");
            }
        }
    }
}
