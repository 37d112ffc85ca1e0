import java.io.IOException;
import java.lang.reflect.Method;
import java.lang.reflect.Modifier;
import java.net.URL;
import java.net.URLClassLoader;
import java.nio.file.Files;
import java.nio.file.Path;
import java.util.ArrayList;
import java.util.List;
import java.util.function.BiConsumer;
import java.util.regex.Matcher;
import java.util.regex.Pattern;
import java.util.stream.Stream;
import javax.tools.JavaCompiler;
import javax.tools.ToolProvider;

/** README.md's code is compiled as it stands there, and each call that shows an answer is asked for it. */
public final class ReadmeTest {
    private static final Pattern BLOCK = Pattern.compile("(?s)```java\n(.*?)```");
    private static final Pattern SHOWN = Pattern.compile("(x\\.\\w+\\(.*\\));\\s*// (-?\\d+|true|false): .*");
    private static final String NAME = "ReadmeShown";

    private static final Check C = new Check();

    public static void main(String[] args) throws Exception {
        String readme = Files.readString(Path.of("README.md"));
        namesAllCalls(readme);
        List<String> wanted = new ArrayList<>();
        Path folder = Files.createTempDirectory("readme");
        try {
            Path source = folder.resolve(NAME + ".java");
            Files.writeString(source, asClass(readme, wanted));
            C.due("README.md's code compiles", 0, compile(source, folder));
            holdAnswers(folder, wanted);
        } finally {
            remove(folder);
        }
        C.end();
    }

    private static void namesAllCalls(String readme) {
        for (Method m : LineEnds.class.getDeclaredMethods()) {
            if (Modifier.isPublic(m.getModifiers())) {
                C.due("README.md names " + m.getName(), true, readme.contains("`" + m.getName() + "`"));
            }
        }
    }

    /** Blocks that begin with a method of their own are members; all others follow one another in one method. */
    private static String asClass(String readme, List<String> wanted) {
        StringBuilder members = new StringBuilder();
        StringBuilder steps = new StringBuilder();
        Matcher blocks = BLOCK.matcher(readme);
        while (blocks.find()) {
            if (blocks.group(1).startsWith("static")) {
                members.append(blocks.group(1));
            } else {
                blocks.group(1).lines().forEach(line -> steps.append(asStep(line, wanted)).append("\n"));
            }
        }
        return "public final class " + NAME + " {\n" + members
            + "public static void show(java.util.function.BiConsumer<String, Object> due) {\n" + steps + "}\n}\n";
    }

    private static String asStep(String line, List<String> wanted) {
        Matcher m = SHOWN.matcher(line);
        if (!m.matches()) {
            C.due("README.md shows what this answers: " + line, false, line.startsWith("x."));
            return line;
        }
        wanted.add(m.group(2));
        return "due.accept(\"" + m.group(1) + "\", " + m.group(1) + ");";
    }

    private static int compile(Path source, Path folder) {
        JavaCompiler compiler = ToolProvider.getSystemJavaCompiler();
        String path = System.getProperty("java.class.path");
        return compiler.run(null, null, null, "-cp", path, "-d", folder.toString(), source.toString());
    }

    private static void holdAnswers(Path folder, List<String> wanted) throws Exception {
        List<String> left = new ArrayList<>(wanted);
        BiConsumer<String, Object> due = (call, got) -> C.due(call, left.remove(0), got.toString());
        try (URLClassLoader loader = new URLClassLoader(new URL[] {folder.toUri().toURL()})) {
            loader.loadClass(NAME).getMethod("show", BiConsumer.class).invoke(null, due);
        }
        C.due("README.md shows answers", true, wanted.size() > 0);
        C.due("answers not asked for", 0, left.size());
    }

    private static void remove(Path folder) throws IOException {
        try (Stream<Path> files = Files.list(folder)) {
            for (Path file : files.toList()) {
                Files.delete(file);
            }
        }
        Files.delete(folder);
    }
}
