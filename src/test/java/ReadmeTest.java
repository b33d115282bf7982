import java.io.File;
import java.io.IOException;
import java.lang.reflect.Method;
import java.lang.reflect.Modifier;
import java.net.URL;
import java.net.URLClassLoader;
import java.nio.file.Files;
import java.nio.file.Path;
import java.nio.file.attribute.PosixFilePermission;
import java.util.ArrayList;
import java.util.Comparator;
import java.util.List;
import java.util.TreeSet;
import java.util.regex.Matcher;
import java.util.regex.Pattern;
import java.util.stream.Stream;
import javax.tools.JavaCompiler;
import javax.tools.ToolProvider;

/** What README.md shows: its example is compiled and run, its commands are run, the files that it names are there. */
public final class ReadmeTest extends Checks {
    private static final Path README = Path.of("README.md");
    private static final Path TESTS = Path.of("src", "test", "java");
    private static final Path TEST_SCRIPT = Path.of(".ci", "run");
    private static final Pattern DECLARATION = Pattern.compile("\\w+ (\\w+) = .*;");
    private static final Pattern CALL = Pattern.compile("\\bforecast\\.(\\w+)\\(");
    private static final Pattern NAMED_FILE = Pattern.compile("`((?:\\.ci|src)/[\\w./]+)`");

    /** A line of the example: its code, and what it is said to answer; null if nothing is said. */
    private record Line(String code, String said) {
        static Line of(String text) {
            int comment = text.indexOf("//");
            if (comment <= 0) {
                return new Line(text.trim(), null);
            }
            String words = text.substring(comment + 2);
            int colon = words.indexOf(':');
            return new Line(text.substring(0, comment).trim(), (colon < 0 ? words : words.substring(0, colon)).trim());
        }

        /** The line as part of a method that gathers what each call answers. */
        String asPartOfProgram() {
            if (said == null) {
                return code + "\n";
            }
            Matcher declaration = DECLARATION.matcher(code);
            if (declaration.matches()) {
                return code + " answers.add(\"\" + " + declaration.group(1) + ");\n";
            }
            String call = said.startsWith("throws ") ? code + " answers.add(\"nothing thrown\");"
                    : "answers.add(\"\" + (" + code.substring(0, code.length() - 1) + "));";
            return "try { " + call + " } catch (RuntimeException thrown) {"
                    + " answers.add(\"throws \" + thrown.getClass().getSimpleName()); }\n";
        }
    }

    public static void main(String[] args) throws Exception {
        String readme = Files.readString(README);
        Path folder = Files.createTempDirectory("readme");
        try {
            example(readme, folder);
            commands(readme, folder);
        } finally {
            delete(folder);
        }
        files(readme);
        finish();
    }

    private static List<String> blocks(String readme, String language) {
        Matcher found = Pattern.compile("^```" + language + "\n(.*?)^```$", Pattern.DOTALL | Pattern.MULTILINE)
                .matcher(readme);
        List<String> blocks = new ArrayList<>();
        while (found.find()) {
            blocks.add(found.group(1));
        }
        return blocks;
    }

    private static void delete(Path folder) throws IOException {
        List<Path> inside = new ArrayList<>();
        try (Stream<Path> walk = Files.walk(folder)) {
            walk.sorted(Comparator.reverseOrder()).forEach(inside::add);
        }
        for (Path path : inside) {
            Files.delete(path);
        }
    }

    // ---- the example

    private static void example(String readme, Path folder) throws Exception {
        sentence("README.md: the calls of its example answer what it says");
        List<String> blocks = blocks(readme, "java");
        due("examples", blocks.size(), 1);
        List<Line> lines = new ArrayList<>();
        for (String text : String.join("", blocks).split("\n")) {
            lines.add(Line.of(text));
        }
        List<Line> answering = lines.stream().filter(line -> line.said() != null).toList();
        List<?> answers = run(lines, folder);
        due("answers", answers.size(), answering.size());
        for (int i = 0; i < Math.min(answers.size(), answering.size()); i++) {
            due(answering.get(i).code(), answers.get(i).toString(), answering.get(i).said());
        }
        callsShown(lines);
    }

    private static List<?> run(List<Line> lines, Path folder) throws Exception {
        StringBuilder program = new StringBuilder("public class Example {\n");
        program.append("public static java.util.List<String> run() {\n");
        program.append("java.util.List<String> answers = new java.util.ArrayList<>();\n");
        for (Line line : lines) {
            program.append(line.asPartOfProgram());
        }
        program.append("return answers;\n}\n}\n");
        Path source = Files.writeString(folder.resolve("Example.java"), program);
        JavaCompiler compiler = ToolProvider.getSystemJavaCompiler();
        int exit = compiler.run(null, null, null, "-cp", System.getProperty("java.class.path"),
                "-d", folder.toString(), source.toString());
        due("exit code of the compiler", exit, 0);
        if (exit != 0) {
            return List.of();
        }
        try (URLClassLoader loader = new URLClassLoader(new URL[] {folder.toUri().toURL()})) {
            return (List<?>) loader.loadClass("Example").getMethod("run").invoke(null);
        }
    }

    /** All methods of the class are in the example, and only one that answers nothing stands there without answer. */
    private static void callsShown(List<Line> lines) {
        TreeSet<String> shown = new TreeSet<>();
        TreeSet<String> withoutAnswer = new TreeSet<>();
        for (Line line : lines) {
            Matcher call = CALL.matcher(line.code());
            if (call.find()) {
                shown.add(call.group(1));
                if (line.said() == null) {
                    withoutAnswer.add(call.group(1));
                }
            }
        }
        TreeSet<String> face = new TreeSet<>();
        for (Method method : RoomForecast.class.getDeclaredMethods()) {
            if (Modifier.isPublic(method.getModifiers())) {
                face.add(method.getName());
            }
        }
        due("methods shown", shown.toString(), face.toString());
        due("methods shown without an answer", withoutAnswer.toString(), "[setRule]");
    }

    // ---- the commands

    private static void commands(String readme, Path folder) throws Exception {
        sentence("README.md: its tests run by the command that it names");
        List<String> blocks = blocks(readme, "sh");
        due("blocks of commands", blocks.size(), 2);
        if (blocks.size() == 2) {
            allTests(blocks.get(0).trim());
            oneTest(blocks.get(1), folder);
        }
    }

    /** The command is not run here, for it runs this test: it has to be the script that runs it. */
    private static void allTests(String command) throws IOException {
        due("the command for all tests", command, ".ci/run");
        due("it may be run", Files.getPosixFilePermissions(TEST_SCRIPT).contains(PosixFilePermission.OWNER_EXECUTE),
                true);
        String running = System.getProperty("test.script", TEST_SCRIPT.toString());
        due("it runs this test, not " + running, Files.isSameFile(Path.of(running), TEST_SCRIPT), true);
    }

    private static void oneTest(String commands, Path folder) throws Exception {
        File output = folder.resolve("output").toFile();
        ProcessBuilder shell = new ProcessBuilder("sh", "-euc", commands);
        shell.environment().put("TMPDIR", folder.toString());
        int exit = shell.redirectErrorStream(true).redirectOutput(output).start().waitFor();
        String told = Files.readString(output.toPath());
        due("exit code of the commands for one test, which told " + told, exit, 0);
        due("the test ran", told.endsWith(" answers are as the model's\n"), true);
    }

    // ---- the files

    private static void files(String readme) throws IOException {
        sentence("README.md: the files that it names are there, and all tests are named");
        Matcher named = NAMED_FILE.matcher(readme);
        TreeSet<String> tests = new TreeSet<>();
        while (named.find()) {
            Path file = Path.of(named.group(1));
            due(file + " is there", Files.exists(file), true);
            if (file.startsWith(TESTS)) {
                tests.add(file.getFileName().toString());
            }
        }
        TreeSet<String> there = new TreeSet<>();
        try (Stream<Path> sources = Files.list(TESTS)) {
            sources.forEach(source -> there.add(source.getFileName().toString()));
        }
        due("tests named", tests.toString(), there.toString());
    }
}
