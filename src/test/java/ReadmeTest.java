import java.io.ByteArrayOutputStream;
import java.io.File;
import java.io.IOException;
import java.io.PrintStream;
import java.lang.reflect.Method;
import java.lang.reflect.Modifier;
import java.net.URI;
import java.net.URL;
import java.net.URLClassLoader;
import java.nio.file.Files;
import java.nio.file.Path;
import java.util.ArrayList;
import java.util.List;
import java.util.regex.Matcher;
import java.util.regex.Pattern;
import java.util.stream.Stream;
import javax.tools.JavaCompiler;
import javax.tools.JavaFileObject;
import javax.tools.SimpleJavaFileObject;
import javax.tools.ToolProvider;

/** README.md is right: its example answers as it says, it names each call, class and test, and how to run these. */
public final class ReadmeTest {
    private static final Check CHECK = new Check("ReadmeTest");

    public static void main(String[] args) throws IOException, ReflectiveOperationException {
        String page = Files.readString(Path.of("README.md"));
        example(blocks(page, "java").get(0));
        lines(page);
        names(page);
        howToRun(page);
        CHECK.end();
    }

    private static List<String> blocks(String page, String language) {
        List<String> found = new ArrayList<>();
        Matcher matcher = Pattern.compile("```" + language + "\n(.*?)```", Pattern.DOTALL).matcher(page);
        while (matcher.find()) {
            found.add(matcher.group(1));
        }
        return found;
    }

    private static void has(String what, boolean held) {
        CHECK.due(what, 1, () -> held ? 1 : 0);
    }

    /** Each line that shows an answer tells it in the comment behind it. */
    private static void example(String source) throws IOException, ReflectiveOperationException {
        List<Long> due = new ArrayList<>();
        Matcher told = Pattern.compile("show\\(x\\..*\\); *// (-?\\d+)").matcher(source);
        while (told.find()) {
            due.add(Long.parseLong(told.group(1)));
        }
        CHECK.due("answers that the example shows", source.split("show\\(x").length - 1, due::size);
        List<Long> got = printedBy(source);
        CHECK.due("answers of the example", due.size(), got::size);
        for (int i = 0; i < Math.min(due.size(), got.size()); i++) {
            long answer = got.get(i);
            CHECK.due("answer " + i + " of the example", due.get(i), () -> answer);
        }
    }

    private static List<Long> printedBy(String source) throws IOException, ReflectiveOperationException {
        Path out = Files.createTempDirectory("readme");
        PrintStream screen = System.out;
        ByteArrayOutputStream printed = new ByteArrayOutputStream();
        try (URLClassLoader loader = new URLClassLoader(new URL[] {out.toUri().toURL()}, ReadmeTest.class.getClassLoader())) {
            compile(source, out);
            Method main = loader.loadClass("Example").getMethod("main", String[].class);
            System.setOut(new PrintStream(printed, true));
            main.invoke(null, (Object) new String[0]);
        } finally {
            System.setOut(screen);
            Files.deleteIfExists(out.resolve("Example.class"));
            Files.deleteIfExists(out);
        }
        return printed.toString().lines().map(Long::parseLong).toList();
    }

    private static void compile(String source, Path out) {
        JavaCompiler compiler = ToolProvider.getSystemJavaCompiler();
        JavaFileObject file = new SimpleJavaFileObject(URI.create("string:///Example.java"), JavaFileObject.Kind.SOURCE) {
            @Override
            public CharSequence getCharContent(boolean ignoreErrors) {
                return source;
            }
        };
        List<String> options = List.of("-proc:none", "-Xlint:all", "-Werror", "-cp", System.getProperty("java.class.path"), "-d", out.toString());
        boolean compiled = compiler.getTask(null, null, null, options, null, List.of(file)).call();
        has("the example compiles", compiled);
    }

    /** The lines of the first table, one behind the other, are a text (the calendar wants a wind more). */
    private static void lines(String page) {
        StringBuilder text = new StringBuilder();
        Matcher row = Pattern.compile("(?m)^\\| (`[^|]*;`) \\|").matcher(page);
        while (row.find()) {
            text.append(row.group(1).replace('`', ' '));
            if (row.group(1).contains("wind")) {
                text.append("wind; ");
            }
        }
        String[] kinds = {"pew", "chapel", "attic", "door", "wind", "blow", "calendar", "every", "clean", "tithe"};
        for (String kind : kinds) {
            has("a line of " + kind, text.indexOf(" " + kind) >= 0);
        }
        CHECK.due("a text of them: " + text, 0, () -> Check.tell(new DustParish(), text.toString()));
    }

    private static void names(String page) throws IOException {
        for (Method method : DustParish.class.getDeclaredMethods()) {
            if (Modifier.isPublic(method.getModifiers())) {
                has("the call " + method.getName(), Pattern.compile("(?m)^\\| [^|]* \\|.*`" + method.getName() + "`").matcher(page).find());
            }
        }
        for (Class<?> one : DustParish.class.getDeclaredClasses()) {
            has("the class " + one.getSimpleName(), page.contains("`" + one.getSimpleName() + "`"));
        }
        try (Stream<Path> files = Files.list(Path.of("src/test/java"))) {
            for (Path file : files.toList()) {
                String name = file.getFileName().toString().replace(".java", "");
                boolean isTest = name.endsWith("Test");
                has("the test " + name, !isTest && !name.endsWith("Edges") || name.equals("Edges") || page.contains("`" + name + "`"));
            }
        }
        Matcher test = Pattern.compile("(?m)^\\| `(\\w+Test)` \\|").matcher(page);
        while (test.find()) {
            has("there is " + test.group(1), new File("src/test/java/" + test.group(1) + ".java").isFile());
        }
        for (int promise = 1; promise <= 39; promise++) {
            has("a test of promise " + promise, isPromised(page, promise));
        }
    }

    private static boolean isPromised(String page, int promise) {
        Matcher row = Pattern.compile("(?m)^\\| `\\w+Test` \\| promises ([^|]*) \\|$").matcher(page);
        while (row.find()) {
            Matcher part = Pattern.compile("(\\d+)(?: to (\\d+))?").matcher(row.group(1));
            while (part.find()) {
                int first = Integer.parseInt(part.group(1));
                int last = part.group(2) == null ? first : Integer.parseInt(part.group(2));
                if (first <= promise && promise <= last) {
                    return true;
                }
            }
        }
        return false;
    }

    /** The way to run the tests is that of .ci/run. */
    private static void howToRun(String page) throws IOException {
        String section = page.substring(page.indexOf("## How to run its tests"));
        List<String> ways = blocks(section, "sh");
        CHECK.due("ways", 2, ways::size);
        has("the way is .ci/run", ways.get(0).equals(".ci/run\n"));
        File script = new File(".ci/run");
        has(".ci/run can be run", script.isFile() && script.canExecute());
        String run = Files.readString(script.toPath());
        has("both compile the same", ways.get(1).contains("src/main/java/DustParish.java src/test/java/*.java")
            && run.contains("src/main/java/DustParish.java src/test/java/*.java"));
        Matcher alone = Pattern.compile("java -cp out (\\w+)\n").matcher(ways.get(1));
        has("one test alone", alone.find() && new File("src/test/java/" + alone.group(1) + ".java").isFile());
    }
}
