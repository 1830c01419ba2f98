import java.io.File;
import java.io.IOException;
import java.lang.reflect.InvocationTargetException;
import java.lang.reflect.Method;
import java.lang.reflect.Modifier;
import java.net.URL;
import java.net.URLClassLoader;
import java.nio.file.Files;
import java.nio.file.Path;
import java.util.Comparator;
import java.util.List;
import java.util.regex.Matcher;
import java.util.regex.Pattern;
import java.util.stream.Stream;
import javax.tools.ToolProvider;

/** The examples of README.md answer what is written behind them, and each call is named there. */
public final class ReadmeTest {
    private static final Pattern BLOCK = Pattern.compile("(?s)```java\\n(.*?)```");
    private static final Pattern ANSWER = Pattern.compile("(?:int|long) (\\w+) = .*; +// (-?\\d+|NONE)\\b.*");

    public static void main(String[] args) throws IOException, ReflectiveOperationException {
        String readme = Files.readString(Path.of(System.getProperty("mapitch.readme")));
        for (Method method : MapItch.class.getDeclaredMethods()) {
            boolean isNamed = !Modifier.isPublic(method.getModifiers()) || readme.contains("`" + method.getName() + "`");
            Check.due("README.md names " + method.getName(), isNamed ? 1 : 0, 1);
        }
        Path work = Files.createTempDirectory("readme");
        try {
            runExamples(program(readme), work);
        } finally {
            remove(work);
        }
        Check.end();
    }

    /** The examples one behind another, each answer that is written behind a call being asked for. */
    private static String program(String readme) {
        StringBuilder text = new StringBuilder("public final class Examples { public static void go() {\n");
        text.append("final int NONE = MapItch.NONE;\n");
        int answers = 0;
        for (Matcher block = BLOCK.matcher(readme); block.find();) {
            for (String line : block.group(1).split("\n")) {
                text.append(line).append('\n');
                Matcher answer = ANSWER.matcher(line);
                if (answer.matches()) {
                    answers++;
                    text.append("if (").append(answer.group(1)).append(" != ").append(answer.group(2));
                    text.append(") { throw new IllegalStateException(\"").append(answer.group(1));
                    text.append(" is \" + ").append(answer.group(1)).append("); }\n");
                }
            }
        }
        Check.due("README.md has answers", answers > 20 ? 1 : 0, 1);
        return text.append("} }\n").toString();
    }

    private static void runExamples(String program, Path work) throws IOException, ReflectiveOperationException {
        Path source = Files.writeString(work.resolve("Examples.java"), program);
        List<String> options = List.of("-cp", System.getProperty("java.class.path"), "-d", work.toString());
        String[] all = Stream.concat(options.stream(), Stream.of(source.toString())).toArray(String[]::new);
        int compiled = ToolProvider.getSystemJavaCompiler().run(null, null, null, all);
        Check.due("the examples are compiled", compiled, 0);
        if (compiled != 0) {
            return;
        }
        URL[] places = {work.toUri().toURL()};
        try (URLClassLoader loader = new URLClassLoader(places, ReadmeTest.class.getClassLoader())) {
            loader.loadClass("Examples").getMethod("go").invoke(null);
        } catch (InvocationTargetException thrown) {
            Check.due("an example: " + thrown.getCause().getMessage(), 1, 0);
        }
    }

    private static void remove(Path folder) throws IOException {
        try (Stream<Path> parts = Files.walk(folder)) {
            parts.sorted(Comparator.reverseOrder()).map(Path::toFile).forEach(File::delete);
        }
    }
}
