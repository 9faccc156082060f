import java.io.File;
import java.lang.reflect.InvocationTargetException;
import java.lang.reflect.Method;
import java.lang.reflect.Modifier;
import java.net.URL;
import java.net.URLClassLoader;
import java.nio.file.Files;
import java.nio.file.Path;
import java.util.ArrayList;
import java.util.List;
import java.util.regex.Matcher;
import java.util.regex.Pattern;
import javax.tools.ToolProvider;

/** The README's example answers what its comments say, and the README names each method and each test. */
public final class ReadmeTest {
    private static final Pattern TOLD = Pattern.compile("(?:\\w+ (\\w+) = )?(.*;)\\s+// (\\w+).*");

    private final StringBuilder source = new StringBuilder();
    private final List<String> calls = new ArrayList<>();
    private final List<String> dues = new ArrayList<>();

    public static void main(String[] args) throws Exception {
        Path root = Path.of(args[0]);
        String text = Files.readString(root.resolve("README.md"));
        for (Method m : Layerboard.class.getDeclaredMethods()) {
            if (Modifier.isPublic(m.getModifiers())) {
                Due.is("the README names " + m.getName(), text.contains("`" + m.getName() + "`"), true);
            }
        }
        for (File f : root.resolve("src/test/java").toFile().listFiles()) {
            String name = f.getName().replace(".java", "");
            if (name.endsWith("Test")) {
                Due.is("the README names " + name, text.contains("`" + name + "`"), true);
            }
        }
        int from = text.indexOf("```java");
        new ReadmeTest().hold(text.substring(text.indexOf('\n', from), text.indexOf("```", from + 3)));
        Due.finish("ReadmeTest");
    }

    private void hold(String example) throws Exception {
        source.append("public final class Example {\npublic static void run(java.util.List<Object> got) {\n");
        for (String line : example.split("\n")) {
            take(line);
        }
        source.append("}\n}\n");
        List<Object> got = new ArrayList<>();
        run(got);
        Due.is("the example's answers", got.size(), dues.size());
        for (int i = 0; i < got.size(); i++) {
            Due.is("the README's " + calls.get(i), got.get(i).toString(), dues.get(i));
        }
    }

    /** A bare call becomes one whose answer is kept; what a line declares is kept behind it. */
    private void take(String line) {
        Matcher m = TOLD.matcher(line);
        if (!m.matches()) {
            source.append(line).append('\n');
            return;
        }
        String call = m.group(2).substring(0, m.group(2).length() - 1);
        if (m.group(1) != null) {
            source.append(line).append('\n');
        }
        source.append("got.add(").append(m.group(1) == null ? call : m.group(1)).append(");\n");
        calls.add(call);
        dues.add(m.group(3));
    }

    private void run(List<Object> got) throws Exception {
        Path dir = Files.createTempDirectory("readme");
        Path file = dir.resolve("Example.java");
        Files.writeString(file, source);
        int failed = ToolProvider.getSystemJavaCompiler().run(null, null, null,
                "-cp", System.getProperty("java.class.path"), "-d", dir.toString(), file.toString());
        Due.is("the example compiles", failed, 0);
        try (URLClassLoader loader = new URLClassLoader(new URL[] {dir.toUri().toURL()})) {
            loader.loadClass("Example").getMethod("run", List.class).invoke(null, got);
        } catch (ClassNotFoundException e) {
            return;
        } catch (InvocationTargetException e) {
            Due.is("the example throws " + e.getCause(), true, false);
        } finally {
            Files.deleteIfExists(dir.resolve("Example.class"));
            Files.delete(file);
            Files.delete(dir);
        }
    }
}
