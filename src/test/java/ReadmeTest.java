import java.lang.reflect.Field;
import java.lang.reflect.Method;
import java.lang.reflect.Modifier;
import java.net.URL;
import java.net.URLClassLoader;
import java.nio.file.Files;
import java.nio.file.Path;
import java.util.ArrayList;
import java.util.List;
import java.util.Set;
import java.util.TreeSet;
import java.util.regex.Matcher;
import java.util.regex.Pattern;
import javax.tools.JavaCompiler;
import javax.tools.ToolProvider;

/** The examples of README.md are compiled and run as they stand; each call answers what README.md says behind it. */
public final class ReadmeTest {
    private static final Pattern BLOCK = Pattern.compile("(?ms)^```java\n(.*?)^```$");
    private static final Pattern ANSWERED = Pattern.compile("(?:int (\\w+) = )?(dome\\.(\\w+)\\(.*?\\));\\s*// (-?\\w+): \\S.*");
    private static final Pattern CALL = Pattern.compile("(?:int \\w+ = )?dome\\.\\w+\\(.*");
    private static final Due due = new Due();

    private final StringBuilder body = new StringBuilder();
    private final List<String> calls = new ArrayList<>();
    private final List<Long> promised = new ArrayList<>();
    private final Set<String> shown = new TreeSet<>();

    public static void main(String[] args) throws Exception {
        Path root = Path.of(args.length > 1 ? args[1] : ".");
        String text = Files.readString(root.resolve("README.md"));
        ReadmeTest readme = new ReadmeTest();
        readme.read(text);
        readme.everyCallIsShown();
        readme.answersAreAsShown();
        everyConstantIsTold(text);
        everyTestIsNamed(text, root.resolve("src/test/java"));
        due.end("ReadmeTest");
    }

    private void read(String text) throws Exception {
        Matcher blocks = BLOCK.matcher(text);
        while (blocks.find()) {
            for (String line : blocks.group(1).split("\n")) {
                readLine(line);
            }
        }
    }

    private void readLine(String line) throws Exception {
        Matcher answered = ANSWERED.matcher(line);
        if (!answered.matches()) {
            due.holds("README.md tells the answer of: " + line, !CALL.matcher(line).matches());
            body.append(line).append('\n');
            return;
        }
        String name = answered.group(1);
        String got = name == null ? answered.group(2) : name;
        body.append(name == null ? "" : line + "\n").append("got.add((long) ").append(got).append(");\n");
        calls.add(answered.group(2));
        promised.add(number(answered.group(4)));
        shown.add(answered.group(3));
    }

    private static long number(String answer) throws Exception {
        boolean named = Character.isLetter(answer.charAt(0));
        return named ? WhisperDome.class.getField(answer).getInt(null) : Long.parseLong(answer);
    }

    private void everyCallIsShown() {
        for (Method method : WhisperDome.class.getDeclaredMethods()) {
            boolean open = Modifier.isPublic(method.getModifiers());
            due.holds("README.md shows " + method.getName() + "()", !open || shown.contains(method.getName()));
        }
    }

    private void answersAreAsShown() throws Exception {
        List<?> got = run();
        due.is("answers of README.md's calls", got.size(), promised.size());
        for (int at = 0; at < Math.min(got.size(), promised.size()); at++) {
            due.is("README.md's " + calls.get(at), (Long) got.get(at), promised.get(at));
        }
    }

    private List<?> run() throws Exception {
        Path work = Files.createTempDirectory("readme");
        Path source = work.resolve("ReadmeExample.java");
        Path made = work.resolve("ReadmeExample.class");
        try {
            Files.writeString(source, "public final class ReadmeExample {\n"
                + "public static java.util.List<Long> answers() {\njava.util.List<Long> got = new java.util.ArrayList<>();\n"
                + body + "return got;\n}\n}\n");
            JavaCompiler javac = ToolProvider.getSystemJavaCompiler();
            String path = System.getProperty("java.class.path");
            int code = javac.run(null, null, null, "--release", "17", "-cp", path, "-d", work.toString(), source.toString());
            due.is("javac of README.md's examples", code, 0);
            return code == 0 ? answers(work) : List.of();
        } finally {
            Files.deleteIfExists(source);
            Files.deleteIfExists(made);
            Files.deleteIfExists(work);
        }
    }

    private static List<?> answers(Path work) throws Exception {
        try (URLClassLoader loader = new URLClassLoader(new URL[] {work.toUri().toURL()}, ReadmeTest.class.getClassLoader())) {
            return (List<?>) loader.loadClass("ReadmeExample").getMethod("answers").invoke(null);
        }
    }

    private static void everyConstantIsTold(String text) throws Exception {
        for (Field field : WhisperDome.class.getFields()) {
            String told = "`" + field.getName() + "` (" + field.getInt(null);
            due.holds("README.md tells " + told, text.contains(told));
        }
    }

    private static void everyTestIsNamed(String text, Path tests) throws Exception {
        try (var files = Files.newDirectoryStream(tests, "*Test.java")) {
            for (Path file : files) {
                String name = file.getFileName().toString().replace(".java", "");
                due.holds("README.md names " + name, text.contains("- `" + name + "`"));
            }
        }
    }
}
