import java.io.IOException;
import java.io.UncheckedIOException;
import java.lang.reflect.Method;
import java.lang.reflect.Modifier;
import java.net.URL;
import java.net.URLClassLoader;
import java.nio.file.Files;
import java.nio.file.Path;
import java.util.ArrayList;
import java.util.Comparator;
import java.util.List;
import java.util.regex.Matcher;
import java.util.regex.Pattern;
import java.util.stream.Stream;
import javax.tools.JavaCompiler;
import javax.tools.ToolProvider;

/** README.md: its lines of code answer what their comments say; it names each call of the face and each test. */
public final class ReadmeTest {
    private static final Path FILE = Path.of("README.md");
    private static final Path TESTS = Path.of("src/test/java");
    private static final Pattern TOLD = Pattern.compile("(int \\w+ = )?(\\w+\\.\\w+\\(.*\\)); *// (-?\\d+)(:.*)?");

    private ReadmeTest() {
    }

    public static void main(String[] args) throws IOException, ReflectiveOperationException {
        List<String> lines = Files.readAllLines(FILE);
        List<String> code = codeOf(lines);
        play(code);
        names(String.join("\n", lines));
        Check.end("README.md");
    }

    /** For the lines of code alone: another loader's class reaches no class that isn't public. */
    public static void due(String call, long got, long want) {
        Check.due(call, got, want);
    }

    private static List<String> codeOf(List<String> lines) {
        List<String> code = new ArrayList<>();
        boolean inside = false;
        for (String line : lines) {
            if (line.startsWith("```")) {
                inside = line.equals("```java");
            } else if (inside) {
                code.add(line);
            }
        }
        return code;
    }

    /** A line whose comment begins with a number becomes a check; all others stand as they are. */
    private static String checked(String line) {
        Matcher told = TOLD.matcher(line);
        if (!told.matches()) {
            return line;
        }
        String call = told.group(2);
        String due = "ReadmeTest.due(\"" + call + "\", ";
        if (told.group(1) == null) {
            return due + call + ", " + told.group(3) + "L);";
        }
        String name = told.group(1).split(" ")[1];
        return told.group(1) + call + "; " + due + name + ", " + told.group(3) + "L);";
    }

    private static void play(List<String> code) throws IOException, ReflectiveOperationException {
        StringBuilder source = new StringBuilder("public final class ReadmeCode { public static void play() {\n");
        int checks = 0;
        for (String line : code) {
            checks += TOLD.matcher(line).matches() ? 1 : 0;
            source.append(checked(line)).append('\n');
        }
        source.append("} }\n");
        Check.due("lines of code with an answer are there (1)", checks > 20 ? 1 : 0, 1);
        Path folder = Files.createTempDirectory("readme");
        try {
            Path file = Files.writeString(folder.resolve("ReadmeCode.java"), source);
            run(file, folder);
        } finally {
            remove(folder);
        }
    }

    private static void run(Path file, Path folder) throws IOException, ReflectiveOperationException {
        JavaCompiler compiler = ToolProvider.getSystemJavaCompiler();
        if (compiler == null) {
            System.out.println("this java has no compiler in it: the lines of code were not run");
            return;
        }
        String classes = System.getProperty("java.class.path");
        int exit = compiler.run(null, null, null, "-cp", classes, "-d", folder.toString(), file.toString());
        Check.due("javac of the lines of code", exit, 0);
        if (exit != 0) {
            return;
        }
        ClassLoader own = ReadmeTest.class.getClassLoader();
        try (URLClassLoader loader = new URLClassLoader(new URL[] {folder.toUri().toURL()}, own)) {
            loader.loadClass("ReadmeCode").getMethod("play").invoke(null);
        }
    }

    private static void remove(Path folder) throws IOException {
        try (Stream<Path> all = Files.walk(folder)) {
            all.sorted(Comparator.reverseOrder()).forEach(ReadmeTest::delete);
        }
    }

    private static void delete(Path path) {
        try {
            Files.delete(path);
        } catch (IOException e) {
            throw new UncheckedIOException(e);
        }
    }

    private static void names(String text) throws IOException {
        for (Method method : LaidOutBoxes.class.getDeclaredMethods()) {
            if (Modifier.isPublic(method.getModifiers())) {
                named(text, method.getName());
            }
        }
        try (Stream<Path> files = Files.list(TESTS)) {
            for (Path file : files.toList()) {
                String name = file.getFileName().toString().replace(".java", "");
                if (!name.equals("Check")) {
                    named(text, name);
                }
            }
        }
    }

    private static void named(String text, String name) {
        Check.due("`" + name + "` is named (1)", text.contains("`" + name + "`") ? 1 : 0, 1);
    }
}
