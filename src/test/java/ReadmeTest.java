import java.io.IOException;
import java.lang.reflect.InvocationTargetException;
import java.net.URL;
import java.net.URLClassLoader;
import java.nio.charset.StandardCharsets;
import java.nio.file.Files;
import java.nio.file.Path;
import java.util.ArrayList;
import java.util.Arrays;
import java.util.List;
import java.util.TreeSet;
import java.util.regex.Matcher;
import java.util.regex.Pattern;
import javax.tools.JavaCompiler;
import javax.tools.ToolProvider;

/** README.md names every call of the class, and its example answers what the page says. */
public final class ReadmeTest {
    private static final Pattern BLOCK = Pattern.compile("```java\n(.*?)```", Pattern.DOTALL);
    /** A call of the example, with the answer behind it. */
    private static final Pattern ANSWERED = Pattern.compile("(?:int (\\w+) = )?(board\\..*?);\\s*// (-?\\d+|true|false)\\b.*");
    private static final Pattern CALL = Pattern.compile("`(\\w+)\\(([\\w, ]*)\\)`");
    private static final Pattern METHOD = Pattern.compile("public (?:int|boolean) (\\w+)\\(([^)]*)\\)");

    public static void main(String[] args) throws IOException, ReflectiveOperationException {
        String readme = Files.readString(told("UTILITY_BOARD_README", "README.md"), StandardCharsets.UTF_8);
        everyCallIsNamed(readme);
        List<String> blocks = new ArrayList<>();
        for (Matcher block = BLOCK.matcher(readme); block.find();) {
            blocks.add(block.group(1));
        }
        Due.due("blocks of code in README.md", blocks.size(), 2);
        if (blocks.size() == 2) {
            runExample(blocks.get(0), blocks.get(1));
        }
        Due.finish();
    }

    private static Path told(String name, String otherwise) {
        String path = System.getenv(name);
        return Path.of(path == null ? otherwise : path);
    }

    private static void everyCallIsNamed(String readme) throws IOException {
        String source = Files.readString(told("UTILITY_BOARD_SOURCE", "src/main/java/UtilityBoard.java"));
        TreeSet<String> inClass = new TreeSet<>();
        for (Matcher method = METHOD.matcher(source); method.find();) {
            inClass.add(method.group(1) + "(" + method.group(2).replaceAll("(int|boolean) ", "") + ")");
        }
        Due.due("calls of the class", inClass.size(), 39);
        TreeSet<String> inReadme = new TreeSet<>();
        for (Matcher call = CALL.matcher(readme); call.find();) {
            inReadme.add(call.group(1) + "(" + call.group(2) + ")");
        }
        for (String call : inClass) {
            Due.due("README.md names " + call, inReadme.contains(call), true);
        }
        inReadme.removeAll(inClass);
        Due.due("README.md names what is no call: " + inReadme, inReadme.size(), 0);
    }

    private static void runExample(String example, String helper) throws IOException, ReflectiveOperationException {
        StringBuilder code = new StringBuilder("public final class Example {\n").append(helper);
        code.append("public static void run(java.util.List<String> got) {\n");
        List<String> calls = new ArrayList<>();
        List<String> due = new ArrayList<>();
        for (String line : example.split("\n")) {
            Matcher answered = ANSWERED.matcher(line.trim());
            if (!answered.matches()) {
                code.append(line).append('\n');
                continue;
            }
            calls.add(answered.group(2));
            due.add(answered.group(3));
            String name = answered.group(1);
            String asked = name == null ? answered.group(2) : name;
            code.append(name == null ? "" : "int " + name + " = " + answered.group(2) + "; ");
            code.append("got.add(\"\" + ").append(asked).append(");\n");
        }
        List<String> got = answersOf(code.append("}\n}\n").toString());
        Due.due("answers of the example: " + got, got.size(), due.size());
        for (int i = 0; i < Math.min(got.size(), due.size()); i++) {
            Due.due(calls.get(i) + " of README.md, told as " + due.get(i) + ", is " + got.get(i),
                got.get(i).equals(due.get(i)), true);
        }
        Due.due("the example has answers", due.size() > 20, true);
    }

    private static List<String> answersOf(String code) throws IOException, ReflectiveOperationException {
        List<String> got = new ArrayList<>();
        Path room = Files.createTempDirectory("readme");
        Path file = room.resolve("Example.java");
        Files.writeString(file, code);
        JavaCompiler compiler = ToolProvider.getSystemJavaCompiler();
        int result = compiler.run(null, null, null, "-cp", System.getProperty("java.class.path"), "-d", room.toString(),
            file.toString());
        Due.due("the example of README.md compiles", result, 0);
        if (result == 0) {
            try (URLClassLoader loader = new URLClassLoader(new URL[] {room.toUri().toURL()})) {
                loader.loadClass("Example").getMethod("run", List.class).invoke(null, got);
            } catch (InvocationTargetException e) {
                Due.due("the example of README.md threw " + e.getCause(), true, false);
            }
        }
        for (String name : Arrays.asList("Example.class", "Example.java", "")) {
            Files.deleteIfExists(room.resolve(name));
        }
        return got;
    }
}
