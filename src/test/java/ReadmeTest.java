import java.lang.reflect.Field;
import java.lang.reflect.Method;
import java.lang.reflect.Modifier;
import java.net.URL;
import java.net.URLClassLoader;
import java.nio.charset.StandardCharsets;
import java.nio.file.Files;
import java.nio.file.Path;
import java.util.ArrayList;
import java.util.Comparator;
import java.util.List;
import java.util.regex.MatchResult;
import java.util.regex.Matcher;
import java.util.regex.Pattern;
import java.util.stream.Stream;
import javax.tools.ToolProvider;

/**
 * README.md as it stands: its Java examples are compiled and answer what their comments say, its tables name each call
 * and each constant, and its commands do. It is run in the project's folder.
 */
public final class ReadmeTest {
    private static final Pattern BLOCK = Pattern.compile("^```(\\w+)\n(.*?)^```$", Pattern.MULTILINE | Pattern.DOTALL);
    private static final Pattern ANSWER = Pattern.compile("^int (\\w+) = (.*); +// (-?\\w+): .*$", Pattern.MULTILINE);
    // This command runs all tests, and so this one.
    private static final String ALL_TESTS = ".ci/run\n";

    public static void main(String[] args) throws Exception {
        String page = Files.readString(Path.of("README.md"));
        checkExamples(blocks(page, "java"));
        checkCommands(blocks(page, "sh"));
        checkCalls(page);
        checkConstants(page);
        Script.finish();
    }

    private static List<String> blocks(String page, String kind) {
        List<String> blocks = new ArrayList<>();
        Matcher matcher = BLOCK.matcher(page);
        while (matcher.find()) {
            if (matcher.group(1).equals(kind)) {
                blocks.add(matcher.group(2));
            }
        }
        return blocks;
    }

    private static void checkExamples(List<String> examples) throws Exception {
        Script.check("README.md has examples", examples.size(), 2);
        Path folder = Files.createTempDirectory("readme");
        try {
            for (int i = 0; i < examples.size(); i++) {
                runExample(folder, "Example" + i, examples.get(i));
            }
        } finally {
            try (Stream<Path> all = Files.walk(folder)) {
                for (Path path : all.sorted(Comparator.reverseOrder()).toList()) {
                    Files.delete(path);
                }
            }
        }
    }

    private static void runExample(Path folder, String name, String example) throws Exception {
        List<MatchResult> due = ANSWER.matcher(example).results().toList();
        Script.check("README.md: each answer has its comment", due.size(),
            example.lines().filter(line -> line.startsWith("int ")).count());
        Path file = folder.resolve(name + ".java");
        Files.writeString(file, "public class " + name + " {\n"
            + "public static void run(java.util.List<Integer> answers) {\n"
            + ANSWER.matcher(example).replaceAll("$0\nanswers.add($1);") + "}\n}\n");
        int failed = ToolProvider.getSystemJavaCompiler().run(null, null, null, "-cp",
            System.getProperty("java.class.path"), "-d", folder.toString(), file.toString());
        Script.check("README.md: compiling " + name, failed, 0);
        List<Integer> answers = new ArrayList<>();
        try (URLClassLoader loader = new URLClassLoader(new URL[] {folder.toUri().toURL()})) {
            loader.loadClass(name).getMethod("run", List.class).invoke(null, answers);
        }
        for (int i = 0; i < due.size(); i++) {
            String told = due.get(i).group(3);
            Script.check("README.md: " + due.get(i).group(2), answers.get(i),
                told.matches("[A-Z_]+") ? ChalkRings.class.getField(told).getInt(null) : Integer.parseInt(told));
        }
    }

    private static void checkCommands(List<String> commands) throws Exception {
        Script.check("README.md compiles the class, and runs all tests, a single one and a shared one",
            commands.size(), 4);
        Script.check("README.md tells how all tests are run", commands.contains(ALL_TESTS) ? 1 : 0, 1);
        for (String command : commands) {
            if (!command.equals(ALL_TESTS)) {
                Process process = new ProcessBuilder("sh", "-e", "-c", command).redirectErrorStream(true).start();
                String printed = new String(process.getInputStream().readAllBytes(), StandardCharsets.UTF_8);
                Script.check("README.md: " + command + printed, process.waitFor(), 0);
            }
        }
    }

    private static void checkCalls(String page) {
        for (Method method : ChalkRings.class.getDeclaredMethods()) {
            if (Modifier.isPublic(method.getModifiers())) {
                Matcher row = Pattern.compile("^\\| `" + method.getName() + "\\((.*?)\\)`", Pattern.MULTILINE)
                    .matcher(page);
                boolean told = row.find();
                Script.check("README.md has a row of " + method.getName(), told ? 1 : 0, 1);
                int arguments = !told ? -1 : row.group(1).isEmpty() ? 0 : row.group(1).split(",").length;
                Script.check("README.md: arguments of " + method.getName(), arguments, method.getParameterCount());
            }
        }
    }

    private static void checkConstants(String page) throws Exception {
        for (Field field : ChalkRings.class.getFields()) {
            String row = "| `" + field.getName() + "` | " + field.getInt(null) + " | ";
            Script.check("README.md has the row " + row, page.contains(row) ? 1 : 0, 1);
        }
    }
}
