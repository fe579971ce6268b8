import java.io.IOException;
import java.net.URL;
import java.net.URLClassLoader;
import java.nio.file.Files;
import java.nio.file.Path;
import java.util.ArrayList;
import java.util.List;
import java.util.regex.Matcher;
import java.util.regex.Pattern;
import java.util.stream.Stream;
import javax.tools.ToolProvider;

/** What README.md shows: its lines of Java compile as they stand, and answer what is written behind them. */
public final class ReadmeTest extends Checks {
    private static final Pattern BLOCK = Pattern.compile("(?ms)^```java\n(.*?)^```$");
    private static final Pattern SHOWN = Pattern.compile("(x\\.\\w+\\([^)]*\\));\\s+// (-?\\d+|[A-Z]{2,})\\b.*");

    public static void main(String[] args) throws IOException, ReflectiveOperationException {
        String readme = Files.readString(Path.of("README.md"));
        answersAreAsShown(readme);
        testsAreNamed(readme);
        finish();
    }

    private static void answersAreAsShown(String readme) throws IOException, ReflectiveOperationException {
        about("what README.md shows");
        StringBuilder program = new StringBuilder("public final class Shown {\n"
                + "public static void run(java.util.List<Long> answers) {\n");
        List<String> calls = new ArrayList<>();
        List<Long> wanted = new ArrayList<>();
        Matcher block = BLOCK.matcher(readme);
        while (block.find()) {
            for (String line : block.group(1).split("\n")) {
                Matcher shown = SHOWN.matcher(line);
                if (shown.matches()) {
                    calls.add(shown.group(1));
                    wanted.add(numberOf(shown.group(2)));
                    program.append("answers.add((long) ").append(shown.group(1)).append(");\n");
                } else {
                    due("an answer stands behind: " + line, line.startsWith("x.") ? 0 : 1, 1);
                    program.append(line).append('\n');
                }
            }
        }
        List<Long> answers = answersOf(program.append("}\n}\n").toString());
        due("calls that are shown", answers.size(), calls.size());
        for (int i = 0; i < answers.size(); i++) {
            due(calls.get(i), answers.get(i), wanted.get(i));
        }
        eachCallIsShown(readme);
    }

    private static long numberOf(String answer) throws ReflectiveOperationException {
        if (Character.isLetter(answer.charAt(0))) {
            return CellPlane.class.getField(answer).getInt(null);
        }
        return Long.parseLong(answer);
    }

    private static List<Long> answersOf(String program) throws IOException, ReflectiveOperationException {
        List<Long> answers = new ArrayList<>();
        Path home = Files.createTempDirectory("readme");
        Path source = home.resolve("Shown.java");
        Files.writeString(source, program);
        int code = ToolProvider.getSystemJavaCompiler().run(null, null, null,
                "-cp", System.getProperty("java.class.path"), "-d", home.toString(), source.toString());
        due("the compiler", code, 0);
        if (code == 0) {
            try (URLClassLoader loader = new URLClassLoader(new URL[] {home.toUri().toURL()})) {
                loader.loadClass("Shown").getMethod("run", List.class).invoke(null, answers);
            }
        }
        Files.deleteIfExists(home.resolve("Shown.class"));
        Files.delete(source);
        Files.delete(home);
        return answers;
    }

    /** Those that an example can do without: blank() and digest(). */
    private static void eachCallIsShown(String readme) {
        for (java.lang.reflect.Method method : CellPlane.class.getDeclaredMethods()) {
            boolean isCall = java.lang.reflect.Modifier.isPublic(method.getModifiers());
            if (isCall && !List.of("blank", "digest").contains(method.getName())) {
                due(method.getName() + "() is shown", readme.contains("x." + method.getName() + "(") ? 1 : 0, 1);
            }
        }
    }

    private static void testsAreNamed(String readme) throws IOException {
        about("README.md names each test");
        try (Stream<Path> files = Files.list(Path.of("src/test/java"))) {
            for (Path file : files.toList()) {
                String name = file.getFileName().toString().replace(".java", "");
                due(name, readme.contains("- `" + name + "`: ") ? 1 : 0, 1);
            }
        }
    }
}
