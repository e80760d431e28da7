import java.io.IOException;
import java.lang.reflect.InvocationTargetException;
import java.lang.reflect.Method;
import java.lang.reflect.Modifier;
import java.net.URL;
import java.net.URLClassLoader;
import java.nio.file.Files;
import java.nio.file.Path;
import java.util.regex.Matcher;
import java.util.regex.Pattern;
import javax.tools.JavaCompiler;
import javax.tools.ToolProvider;

/** That what README.md says is so: its example compiles and answers as it says, and what it names is there. */
public final class Readme {
    private static final Pattern ANSWERED = Pattern.compile("(?m)^x\\.(\\w+\\([^)]*\\));\\s*// (-?\\d+)[ :].*$");
    private static int wrong = 0;
    private static int answers = 0;

    public static void main(String[] args) throws Exception {
        String page = Files.readString(Path.of("README.md"));
        Matcher example = Pattern.compile("```java\n(.*?)```", Pattern.DOTALL).matcher(page);
        int examples = 0;
        while (example.find()) {
            examples++;
            tryExample(example.group(1));
        }
        check(examples > 0 && answers > 0, "there is no example");
        namesCalls(page);
        namesFiles(page);
        System.out.println(wrong == 0 ? "the page is right, by " + answers + " answers" : wrong + " faults of the page");
        if (wrong != 0) {
            System.exit(1);
        }
    }

    private static void check(boolean good, String what) {
        if (!good) {
            wrong++;
            System.out.println(what);
        }
    }

    /** Called by the example, once it is compiled. */
    public static void due(String call, int got, int want) {
        answers++;
        check(got == want, "README.md: " + call + " answers " + got + ", not " + want);
    }

    private static void tryExample(String code) throws IOException, ReflectiveOperationException {
        String body = ANSWERED.matcher(code).replaceAll("Readme.due(\"$1\", x.$1, $2);");
        check(!body.contains("// "), "README.md: an answer is not told as a number: " + body);
        Path room = Files.createTempDirectory("readme");
        Path source = room.resolve("Example.java");
        Files.writeString(source, "public final class Example {\n public static void run() {\n" + body + " }\n}\n");
        JavaCompiler compiler = ToolProvider.getSystemJavaCompiler();
        int refused = compiler.run(null, null, null, "-proc:none", "-cp", System.getProperty("java.class.path"), "-d", room.toString(),
            source.toString());
        check(refused == 0, "README.md: the example does not compile");
        if (refused == 0) {
            runExample(room);
        }
        Files.deleteIfExists(source);
        Files.deleteIfExists(room.resolve("Example.class"));
        Files.deleteIfExists(room);
    }

    private static void runExample(Path room) throws IOException, ReflectiveOperationException {
        try (URLClassLoader loader = new URLClassLoader(new URL[] {room.toUri().toURL()}, Readme.class.getClassLoader())) {
            loader.loadClass("Example").getMethod("run").invoke(null);
        } catch (InvocationTargetException e) {
            check(false, "README.md: the example threw " + e.getCause());
        }
    }

    private static void namesCalls(String page) {
        for (Method m : KnownWeight.class.getDeclaredMethods()) {
            if (Modifier.isPublic(m.getModifiers())) {
                check(page.contains("`" + m.getName() + "`"), "README.md does not name " + m.getName());
            }
        }
    }

    private static void namesFiles(String page) throws IOException {
        Matcher file = Pattern.compile("`((?:src|\\.ci)/[^` ]+)`").matcher(page);
        while (file.find()) {
            check(Files.exists(Path.of(file.group(1))), "README.md names " + file.group(1) + ", which is not there");
        }
        try (var tests = Files.newDirectoryStream(Path.of("src/test/java"), "*.java")) {
            for (Path test : tests) {
                check(page.contains("`src/test/java/" + test.getFileName() + "`"), "README.md does not name " + test);
            }
        }
    }
}
