import java.io.ByteArrayOutputStream;
import java.io.IOException;
import java.io.PrintStream;
import java.lang.reflect.InvocationTargetException;
import java.lang.reflect.Method;
import java.lang.reflect.Modifier;
import java.net.URL;
import java.net.URLClassLoader;
import java.nio.charset.StandardCharsets;
import java.nio.file.DirectoryStream;
import java.nio.file.Files;
import java.nio.file.Path;
import java.util.regex.Matcher;
import java.util.regex.Pattern;
import java.util.stream.Stream;
import javax.tools.JavaCompiler;
import javax.tools.ToolProvider;

/** What README.md says holds: its example, its book, its list of calls and of tests. */
public final class ReadmeTest {
    private static final Path README = Path.of("README.md");

    private static int wrong;

    private ReadmeTest() {
    }

    public static void main(String[] args) throws IOException, ReflectiveOperationException {
        String text = Files.readString(README);
        example(block(text, "```java\n", "### An example"), block(text, "```text\n", "prints"));
        book(block(text, "```text\n", "A text of a book"));
        calls(text);
        tests(text);
        System.out.println(wrong == 0 ? "ReadmeTest: README.md tells what is so" : "ReadmeTest: " + wrong + " wrong");
        if (wrong != 0) System.exit(1);
    }

    private static void need(boolean so, String what) {
        if (!so) {
            wrong++;
            System.out.println("ReadmeTest: " + what);
        }
    }

    /** What stands in the first block of a sort behind some words. */
    private static String block(String text, String sort, String behind) {
        int words = text.indexOf("\n" + behind);
        int begin = text.indexOf(sort, Math.max(words, 0));
        int end = text.indexOf("\n```", begin + sort.length());
        need(words >= 0 && begin >= 0 && end >= 0, "no block behind '" + behind + "'");
        return words >= 0 && begin >= 0 && end >= 0 ? text.substring(begin + sort.length(), end + 1) : "";
    }

    private static void example(String program, String due) throws IOException, ReflectiveOperationException {
        Path out = Files.createTempDirectory("readme");
        try {
            Path source = Files.writeString(out.resolve("Example.java"), program);
            JavaCompiler compiler = ToolProvider.getSystemJavaCompiler();
            need(compiler != null, "no compiler");
            if (compiler == null) return;
            int failed = compiler.run(null, null, null, "-d", out.toString(), "-cp", System.getProperty("java.class.path"),
                source.toString());
            need(failed == 0, "the example doesn't compile");
            if (failed == 0) need(printed(out).equals(due), "the example prints\n" + printed(out));
        } finally {
            remove(out);
        }
    }

    private static String printed(Path out) throws IOException, ReflectiveOperationException {
        PrintStream screen = System.out;
        ByteArrayOutputStream bytes = new ByteArrayOutputStream();
        try (URLClassLoader loader = new URLClassLoader(new URL[] {out.toUri().toURL()})) {
            Method main = loader.loadClass("Example").getMethod("main", String[].class);
            System.setOut(new PrintStream(bytes, true, StandardCharsets.UTF_8));
            main.invoke(null, (Object) new String[0]);
        } catch (InvocationTargetException e) {
            return "threw " + e.getCause();
        } finally {
            System.setOut(screen);
        }
        return bytes.toString(StandardCharsets.UTF_8).replace(System.lineSeparator(), "\n");
    }

    private static void remove(Path directory) throws IOException {
        try (DirectoryStream<Path> files = Files.newDirectoryStream(directory)) {
            for (Path file : files) Files.delete(file);
        }
        Files.delete(directory);
    }

    /** What stands on the right, behind three blanks, isn't part of the book. */
    private static void book(String lines) {
        StringBuilder text = new StringBuilder();
        for (String line : lines.split("\n")) text.append(line.replaceFirst(" {3}.*", "")).append(' ');
        FallTrials x = new FallTrials();
        need(Feeder.tell(x, text.toString()) == 3, "the book has fault " + x.fault() + " at " + x.where() + " of " + text);
        int[] counts = {2, 2, 2, 2, 1};
        for (int what = 0; what < counts.length; what++) need(x.count(what) == counts[what], "the book, count(" + what + ")");
    }

    /** Each call of the face stands in the list with as many arguments as it has, and no other does. */
    private static void calls(String text) {
        StringBuilder list = new StringBuilder();
        for (String line : text.split("\n")) {
            if (line.startsWith("| `")) list.append(line, 0, line.indexOf('|', 1)).append('\n');
        }
        int told = 0;
        Matcher m = Pattern.compile("`(\\w+)\\(([\\w, ]*)\\)`").matcher(list);
        while (m.find()) {
            told++;
            int arguments = m.group(2).isEmpty() ? 0 : m.group(2).split(",").length;
            need(hasCall(m.group(1), arguments), "there is no " + m.group());
        }
        long calls = Stream.of(FallTrials.class.getDeclaredMethods()).filter(f -> Modifier.isPublic(f.getModifiers())).count();
        need(told == calls, told + " calls are told of " + calls);
    }

    private static boolean hasCall(String name, int arguments) {
        for (Method f : FallTrials.class.getDeclaredMethods()) {
            if (Modifier.isPublic(f.getModifiers()) && f.getName().equals(name) && f.getParameterCount() == arguments) return true;
        }
        return false;
    }

    private static void tests(String text) throws IOException {
        need(Files.isExecutable(Path.of(".ci/run")) && text.contains("\n.ci/run\n"), ".ci/run");
        try (DirectoryStream<Path> files = Files.newDirectoryStream(Path.of("src/test/java"), "*.java")) {
            for (Path file : files) {
                String name = file.getFileName().toString().replace(".java", "");
                need(text.contains("`" + name + "`") || name.equals("Feeder"), name + " isn't told of");
            }
        }
    }
}
