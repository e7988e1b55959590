import java.io.File;
import java.lang.reflect.Method;
import java.lang.reflect.Modifier;
import java.net.URL;
import java.net.URLClassLoader;
import java.nio.file.Files;
import java.nio.file.Path;
import java.util.ArrayList;
import java.util.List;
import java.util.regex.Matcher;
import java.util.regex.Pattern;
import javax.tools.ToolProvider;

/** README.md's example: it compiles, shows every call of the face, and each answers the number told behind it. */
public final class ReadmeTests extends Answers {
    private static final String NAME = "ReadmeExample";
    /** What a call is kept as, the call, its method, and the number told. */
    private static final Pattern TOLD = Pattern.compile("(?:int (\\w+) = )?(line\\.(\\w+)\\(.*\\)); +// (-?\\d+)\\b.*");
    private final List<String> calls = new ArrayList<>();
    private final List<String> shown = new ArrayList<>();
    private final List<Long> told = new ArrayList<>();
    private final StringBuilder body = new StringBuilder();

    public static void main(String[] args) throws Exception {
        ReadmeTests example = new ReadmeTests();
        example.read();
        example.compare(example.answers());
        for (Method method : AsInBertha.class.getDeclaredMethods()) {
            if (Modifier.isPublic(method.getModifiers())) {
                due("README shows " + method.getName(), 1, example.shown.contains(method.getName()) ? 1 : 0);
            }
        }
        tell();
    }

    private void read() throws Exception {
        boolean inside = false;
        for (String line : Files.readAllLines(Path.of("README.md"))) {
            if (line.startsWith("```")) {
                inside = line.equals("```java");
            } else if (inside) {
                readLine(line);
            }
        }
    }

    private void readLine(String line) {
        Matcher call = TOLD.matcher(line);
        if (!call.matches()) {
            due("README tells a number: " + line, 0, line.contains("line.") ? 1 : 0);
            body.append(line).append('\n');
            return;
        }
        String kept = call.group(1);
        if (kept != null) {
            body.append("int ").append(kept).append(" = ").append(call.group(2)).append(";\n");
        }
        body.append("got[").append(calls.size()).append("] = ").append(kept == null ? call.group(2) : kept).append(";\n");
        calls.add(call.group(2));
        shown.add(call.group(3));
        told.add(Long.parseLong(call.group(4)));
    }

    private long[] answers() throws Exception {
        Path dir = Files.createTempDirectory("readme");
        try {
            Path file = dir.resolve(NAME + ".java");
            Files.writeString(file, "public class " + NAME + " {\npublic static void run(long[] got) {\n" + body + "}\n}\n");
            int failed = ToolProvider.getSystemJavaCompiler().run(null, null, null,
                "-cp", System.getProperty("java.class.path"), "-d", dir.toString(), file.toString());
            due("README's example compiles", 0, failed);
            long[] got = new long[calls.size()];
            if (failed == 0) {
                run(dir, got);
            }
            return got;
        } finally {
            drop(dir.toFile());
        }
    }

    private static void run(Path dir, long[] got) throws Exception {
        URL[] where = {dir.toUri().toURL()};
        try (URLClassLoader loader = new URLClassLoader(where, ReadmeTests.class.getClassLoader())) {
            loader.loadClass(NAME).getMethod("run", long[].class).invoke(null, (Object) got);
        }
    }

    private void compare(long[] got) {
        for (int i = 0; i < got.length; i++) {
            due("README: " + calls.get(i), told.get(i), got[i]);
        }
    }

    private static void drop(File dir) {
        File[] files = dir.listFiles();
        for (File file : files == null ? new File[0] : files) {
            drop(file);
        }
        dir.delete();
    }
}
