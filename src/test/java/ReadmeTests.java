import java.io.File;
import java.io.IOException;
import java.net.URL;
import java.net.URLClassLoader;
import java.nio.file.Files;
import java.nio.file.Path;
import java.util.Comparator;
import java.util.List;
import java.util.regex.Matcher;
import java.util.regex.Pattern;
import java.util.stream.Stream;
import javax.tools.ToolProvider;

/** README.md holds: its calls answer as it says behind them, what it names is there, and it names all tests. */
public final class ReadmeTests {
    private static final Pattern BLOCK = Pattern.compile("```java\n(.*?)```", Pattern.DOTALL);
    private static final Pattern CALL = Pattern.compile("(?m)^( +)(x\\..*\\)); +// (NONE|true|false|-?\\d+)(?:: .*)?$");
    private static final Pattern FILE = Pattern.compile("`((?:src|\\.\\./shared)/[^`*]*)`");
    private static int wrong;
    private static int checked;

    public static void main(String[] args) throws Exception {
        String readme = Files.readString(Path.of("README.md"));
        Matcher block = BLOCK.matcher(readme);
        holds(block.find(), "there is a program in README.md");
        run(block.group(1));
        holds(checked > 30, "the program's calls say what they answer");
        Matcher file = FILE.matcher(readme);
        while (file.find()) {
            holds(Files.exists(Path.of(file.group(1))), file.group(1) + " is there");
        }
        for (File test : new File("src/test/java").listFiles((directory, name) -> name.endsWith("Tests.java"))) {
            holds(readme.contains("`src/test/java/" + test.getName() + "`"), "README.md names " + test.getName());
        }
        holds(readme.contains("\n    .ci/run\n") && Files.isExecutable(Path.of(".ci/run")), "README.md names .ci/run");
        System.out.println(wrong == 0 ? checked + " answers are as README.md says" : wrong + " things are not as README.md says");
        if (wrong != 0) {
            System.exit(1);
        }
    }

    private static void holds(boolean does, String what) {
        if (!does) {
            wrong++;
            System.out.println("it does not hold: " + what);
        }
    }

    /** Called by the program of README.md, in place of each call with an answer behind it. */
    public static void answer(String call, Object got, String due) {
        checked++;
        String want = due.equals("NONE") ? "-1" : due;
        if (!String.valueOf(got).equals(want)) {
            wrong++;
            System.out.println("README.md: " + call + " answers " + got + ", it says " + due);
        }
    }

    /** Every call of x that stands alone must say what it answers, so that none is left unchecked. */
    private static void run(String program) throws Exception {
        String main = program.substring(program.indexOf("void main"));
        for (String line : main.split("\n")) {
            holds(!line.trim().startsWith("x.") || CALL.matcher(line).matches(), "an answer stands behind " + line.trim());
        }
        Matcher call = CALL.matcher(program);
        StringBuilder checking = new StringBuilder();
        while (call.find()) {
            String words = call.group(2).replace("\"", "'");
            call.appendReplacement(checking, Matcher.quoteReplacement(call.group(1) + "ReadmeTests.answer(\"" + words + "\", "
                + call.group(2) + ", \"" + call.group(3) + "\");"));
        }
        call.appendTail(checking);
        Path place = Files.createTempDirectory("readme");
        try {
            Path source = Files.writeString(place.resolve("Example.java"), checking);
            int result = ToolProvider.getSystemJavaCompiler().run(null, null, null, "-d", place.toString(), "-cp",
                System.getProperty("java.class.path"), source.toString());
            holds(result == 0, "the program compiles");
            if (result == 0) {
                call(place);
            }
        } finally {
            remove(place);
        }
    }

    private static void call(Path place) throws Exception {
        try (URLClassLoader loader = new URLClassLoader(new URL[] {place.toUri().toURL()})) {
            loader.loadClass("Example").getMethod("main", String[].class).invoke(null, (Object) new String[0]);
        }
    }

    private static void remove(Path place) throws IOException {
        List<Path> all;
        try (Stream<Path> walk = Files.walk(place)) {
            all = walk.sorted(Comparator.reverseOrder()).toList();
        }
        for (Path path : all) {
            Files.delete(path);
        }
    }
}
