import java.lang.reflect.Method;
import java.lang.reflect.Modifier;
import java.net.URL;
import java.net.URLClassLoader;
import java.nio.file.Files;
import java.nio.file.Path;
import java.util.ArrayList;
import java.util.Comparator;
import java.util.List;
import java.util.regex.Matcher;
import java.util.regex.Pattern;
import java.util.stream.Stream;
import javax.tools.ToolProvider;

/** README.md: its examples answer what their comments say, and its tables name every method and every command. */
public final class ReadmeTest {
    private static final Pattern EXAMPLE = Pattern.compile("```java\n(.*?)```", Pattern.DOTALL);
    private static final Pattern ANSWER = Pattern.compile("(?m)^int (\\w+) = (.*?);\\s*// (-?\\d+)\\b.*$");
    private static final Pattern COMMAND = Pattern.compile("(?m)^\\| ([A-Z]) \\| `([^`]+)` \\|");
    private static final Check CHECK = new Check();

    public static void main(String[] args) throws Exception {
        String page = Files.readString(Path.of("README.md"));
        Path directory = Files.createTempDirectory("readme");
        try {
            examples(page, directory);
        } finally {
            remove(directory);
        }
        methods(page);
        commands(page);
        CHECK.end();
    }

    private static void remove(Path directory) throws Exception {
        try (Stream<Path> files = Files.walk(directory)) {
            for (Path file : files.sorted(Comparator.reverseOrder()).toList()) Files.delete(file);
        }
    }

    private static void examples(String page, Path directory) throws Exception {
        Matcher example = EXAMPLE.matcher(page);
        int count = 0;
        for (; example.find(); count++) run(example.group(1), "Example" + count, directory);
        CHECK.due("the examples of the page", count, 2);
    }

    /** Runs an example as a method that answers the numbers in it, in their order. */
    private static void run(String code, String name, Path directory) throws Exception {
        List<String> calls = new ArrayList<>();
        List<Integer> due = new ArrayList<>();
        for (Matcher answer = ANSWER.matcher(code); answer.find(); ) {
            calls.add(answer.group(1));
            due.add(Integer.valueOf(answer.group(3)));
        }
        long numbers = code.lines().filter(line -> line.startsWith("int ")).count();
        CHECK.due("the numbers of " + name + " that have a comment", calls.size(), (int) numbers);
        Path source = directory.resolve(name + ".java");
        Files.writeString(source, "public class " + name + " { public static int[] answers() {\n" + code
                + "return new int[] {" + String.join(", ", calls) + "}; } }");
        String program = System.getProperty("java.class.path");
        int compiled = ToolProvider.getSystemJavaCompiler()
                .run(null, null, null, "-cp", program, "-d", directory.toString(), source.toString());
        CHECK.due("compiling " + name, compiled, 0);
        if (compiled != 0) return;
        try (URLClassLoader loader = new URLClassLoader(new URL[] {directory.toUri().toURL()})) {
            int[] answers = (int[]) loader.loadClass(name).getMethod("answers").invoke(null);
            for (int i = 0; i < answers.length; i++) CHECK.due("README.md: " + calls.get(i), answers[i], due.get(i));
        }
    }

    private static void methods(String page) {
        for (Method method : LineDispatcher.class.getDeclaredMethods()) {
            if (!Modifier.isPublic(method.getModifiers())) continue;
            Matcher row = Pattern.compile("(?m)^\\| `" + method.getName() + "\\(([^)]*)\\)` \\|").matcher(page);
            boolean stands = row.find();
            CHECK.due("the row of " + method.getName(), stands ? 1 : 0, 1);
            if (!stands) continue;
            int parameters = row.group(1).isEmpty() ? 0 : row.group(1).split(",").length;
            CHECK.due("the parameters of " + method.getName(), parameters, method.getParameterCount());
        }
    }

    /** The commands of the table are carried out one behind the other. */
    private static void commands(String page) {
        LineDispatcher x = new LineDispatcher();
        StringBuilder letters = new StringBuilder();
        for (Matcher row = COMMAND.matcher(page); row.find(); ) {
            letters.append(row.group(1));
            CHECK.due("the letter of " + row.group(2), row.group(2).charAt(0), row.group(1).charAt(0));
            CHECK.text(x, row.group(2), 1);
        }
        CHECK.same("the commands of the page", letters.toString(), "LSTOW");
    }
}
