import java.io.IOException;
import java.lang.reflect.InvocationTargetException;
import java.net.URI;
import java.net.URL;
import java.net.URLClassLoader;
import java.nio.file.Files;
import java.nio.file.Path;
import java.util.List;
import java.util.TreeSet;
import java.util.regex.Matcher;
import java.util.regex.Pattern;
import javax.tools.JavaCompiler;
import javax.tools.SimpleJavaFileObject;
import javax.tools.ToolProvider;

/** The README's example compiles and answers what stands behind its calls; its list has every call of the face. */
public final class ReadmeTest {
    private static final Checks CHECK = new Checks();
    private static final Pattern ANSWERED = Pattern.compile("(?m)^(x\\..*);\\s+// (-?\\d+|true|false): .*$");

    public static void main(String[] args) throws Exception {
        String readme = Files.readString(Path.of("README.md"));
        allCallsAreListed(readme);
        Path out = Files.createTempDirectory("readme");
        try {
            run(compiled(example(readme), out));
        } finally {
            Files.deleteIfExists(out.resolve("Example.class"));
            Files.deleteIfExists(out);
        }
        CHECK.end();
    }

    /** For the example: an answer and what stands behind the call. */
    public static void due(String call, Object got, String want) {
        CHECK.due(call + " answered " + got + ", not " + want, got.toString().equals(want) ? 1 : 0, 1);
    }

    private static void allCallsAreListed(String readme) throws IOException {
        TreeSet<String> listed = new TreeSet<>();
        Matcher row = Pattern.compile("(?m)^\\| (`.*) \\|.*$").matcher(readme);
        while (row.find()) {
            listed.addAll(List.of(row.group(1).replaceAll(" \\|.*", "").replace("`", "").split(" ")));
        }
        TreeSet<String> face = new TreeSet<>();
        Matcher call = Pattern.compile("    public (?:int|long|boolean) (\\w+)\\(.*\\);")
                .matcher(Files.readString(Path.of("../shared/DOC.md")));
        while (call.find()) {
            face.add(call.group(1));
        }
        CHECK.due("listed: " + listed, listed.equals(face) ? 1 : 0, 1);
    }

    // The first block has the helper, the second one the calls.
    private static String example(String readme) {
        Matcher block = Pattern.compile("(?s)```java\n(.*?)```").matcher(readme);
        CHECK.due("a helper", block.find() ? 1 : 0, 1);
        String helper = block.group(1);
        CHECK.due("an example", block.find() ? 1 : 0, 1);
        Matcher answered = ANSWERED.matcher(block.group(1));
        StringBuilder calls = new StringBuilder();
        int found = 0;
        while (answered.find()) {
            String call = answered.group(1);
            String shown = call.replace("\\", "\\\\").replace("\"", "\\\"");
            answered.appendReplacement(calls, Matcher.quoteReplacement(
                    "ReadmeTest.due(\"" + shown + "\", " + call + ", \"" + answered.group(2) + "\");"));
            found++;
        }
        answered.appendTail(calls);
        long lines = block.group(1).lines().filter(l -> l.startsWith("x.")).count();
        CHECK.due("each call has its answer", found, lines);
        return "public class Example {\n" + helper + "public static void go() {\n" + calls + "}\n}\n";
    }

    private static Path compiled(String source, Path out) {
        JavaCompiler compiler = ToolProvider.getSystemJavaCompiler();
        SimpleJavaFileObject file = new SimpleJavaFileObject(URI.create("string:///Example.java"),
                javax.tools.JavaFileObject.Kind.SOURCE) {
            @Override
            public CharSequence getCharContent(boolean ignore) {
                return source;
            }
        };
        List<String> options = List.of("-d", out.toString(), "-cp", System.getProperty("java.class.path"));
        boolean is = compiler.getTask(null, null, null, options, null, List.of(file)).call();
        CHECK.due("the example compiles", is ? 1 : 0, 1);
        return out;
    }

    private static void run(Path out) throws IOException, ReflectiveOperationException {
        try (URLClassLoader loader = new URLClassLoader(new URL[] {out.toUri().toURL()})) {
            loader.loadClass("Example").getMethod("go").invoke(null);
        } catch (InvocationTargetException e) {
            throw new IllegalStateException("the example throws", e);
        }
    }
}
