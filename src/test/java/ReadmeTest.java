import java.io.IOException;
import java.lang.reflect.InvocationTargetException;
import java.lang.reflect.Method;
import java.lang.reflect.Modifier;
import java.net.URL;
import java.net.URLClassLoader;
import java.nio.file.Files;
import java.nio.file.Path;
import java.util.ArrayList;
import java.util.List;
import java.util.Map;
import java.util.TreeMap;
import java.util.regex.Matcher;
import java.util.regex.Pattern;
import javax.tools.ToolProvider;

/** README.md's own code is compiled and answers as the page says; each call and each line of the text stands there. */
public final class ReadmeTest {
    private static final String[] LINES = {"rooms N", "door A B", "way A B", "shut A B", "folk A N", "thick A N", "hands N",
        "chance N"};
    private static final Pattern BLOCK = Pattern.compile("(?s)```java\n(.*?)```");
    private static final Pattern ASKED = Pattern.compile("(.+); *// ([A-Z]+|-?\\d+): .*");
    private static final Check CHECK = new Check();

    private ReadmeTest() {
    }

    public static void main(String[] args) throws Exception {
        String page = Files.readString(Path.of("README.md"));
        everyCallStandsThere(page);
        everyLineStandsThere(page);
        codeAnswersAsItSays(page);
        CHECK.end();
    }

    private static void everyCallStandsThere(String page) {
        Map<String, Integer> parameters = new TreeMap<>();
        for (Method method : WettedNet.class.getDeclaredMethods()) {
            if (Modifier.isPublic(method.getModifiers())) {
                parameters.put(method.getName(), method.getParameterCount());
            }
        }
        Map<String, Integer> told = new TreeMap<>();
        Matcher row = Pattern.compile("(?m)^\\| `(\\w+)\\(([^)]*)\\)` \\|").matcher(page);
        while (row.find()) {
            told.put(row.group(1), row.group(2).isEmpty() ? 0 : row.group(2).split(",").length);
        }
        CHECK.due("calls of the class", 22, parameters.size());
        CHECK.holds("the page tells " + told + ", the class has " + parameters, told.equals(parameters));
    }

    private static void everyLineStandsThere(String page) {
        for (String line : LINES) {
            CHECK.holds("the page tells the line " + line, page.contains("\n| `" + line + "` |"));
        }
    }

    private static void codeAnswersAsItSays(String page) throws Exception {
        List<String> blocks = new ArrayList<>();
        Matcher block = BLOCK.matcher(page);
        while (block.find()) {
            blocks.add(block.group(1));
        }
        CHECK.due("blocks of code", 2, blocks.size());
        List<String> due = new ArrayList<>();
        StringBuilder body = new StringBuilder();
        for (String line : blocks.get(1).split("\n")) {
            Matcher asked = ASKED.matcher(line);
            if (asked.matches()) {
                due.add(line);
                body.append("answers.add(").append(asked.group(1)).append(" - (")
                        .append(asked.group(2).replaceAll("([A-Z]+)", "WettedNet.$1")).append(") + 0L);\n");
            } else {
                body.append(line).append('\n');
            }
        }
        List<Long> off = answersOf(blocks.get(0), body.toString());
        CHECK.due("answers of the page", due.size(), off.size());
        CHECK.holds("there are some", due.size() > 20);
        for (int i = 0; i < Math.min(due.size(), off.size()); i++) {
            CHECK.due(due.get(i).trim() + " (off by)", 0, off.get(i));
        }
    }

    @SuppressWarnings("unchecked")
    private static List<Long> answersOf(String helper, String body)
            throws IOException, ReflectiveOperationException {
        Path folder = Files.createTempDirectory("readme");
        try {
            Path source = folder.resolve("Page.java");
            Files.writeString(source, "public class Page {\n" + helper
                    + "public static java.util.List<Long> run() {\njava.util.List<Long> answers = new java.util.ArrayList<>();\n"
                    + body + "return answers;\n}\n}\n");
            int code = ToolProvider.getSystemJavaCompiler().run(null, null, null,
                    "-cp", System.getProperty("java.class.path"), "-d", folder.toString(), source.toString());
            CHECK.due("the page's code compiles", 0, code);
            if (code != 0) {
                return List.of();
            }
            try (URLClassLoader loader = new URLClassLoader(new URL[] {folder.toUri().toURL()})) {
                return (List<Long>) loader.loadClass("Page").getMethod("run").invoke(null);
            } catch (InvocationTargetException thrown) {
                CHECK.holds("the page's code threw " + thrown.getCause(), false);
                return List.of();
            }
        } finally {
            Files.deleteIfExists(folder.resolve("Page.java"));
            Files.deleteIfExists(folder.resolve("Page.class"));
            Files.deleteIfExists(folder);
        }
    }
}
