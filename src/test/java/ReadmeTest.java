import java.io.ByteArrayOutputStream;
import java.io.IOException;
import java.io.PrintStream;
import java.lang.reflect.Method;
import java.lang.reflect.Modifier;
import java.net.URL;
import java.net.URLClassLoader;
import java.nio.charset.StandardCharsets;
import java.nio.file.Files;
import java.nio.file.Path;
import java.util.ArrayList;
import java.util.List;
import java.util.Set;
import java.util.TreeSet;
import java.util.regex.Matcher;
import java.util.regex.Pattern;
import javax.tools.JavaCompiler;
import javax.tools.ToolProvider;

/** README.md: its example's answers, the commands that it names, the calls and the tests that it tells of. */
public final class ReadmeTest {
    private static final Pattern ANSWERED = Pattern.compile("( +)(x\\.\\w+\\(.*\\)); // ([^:]+)(: .+)?");

    private final Path root;
    private final String readme;

    private ReadmeTest(Path root) throws IOException {
        this.root = root;
        readme = Files.readString(root.resolve("README.md"));
    }

    public static void main(String[] args) throws Exception {
        ReadmeTest test = new ReadmeTest(Path.of(args.length > 0 ? args[0] : "."));
        test.example();
        test.commands();
        test.ownTests();
        test.calls();
        Check.end("ReadmeTest");
    }

    private List<String> blocks(String kind) {
        List<String> all = new ArrayList<>();
        Matcher m = Pattern.compile("(?s)\n```" + kind + "\n(.*?)```\n").matcher(readme);
        while (m.find()) {
            all.add(m.group(1));
        }
        return all;
    }

    // ---- the example

    private void example() throws Exception {
        Check.begin("the example");
        List<String> all = blocks("java");
        Check.is("blocks of java", all.size(), 1);
        String example = all.get(0);
        Check.same("what it prints as it is written", output(compiled("asWritten", example)), "");

        StringBuilder printing = new StringBuilder();
        StringBuilder due = new StringBuilder();
        int answers = 0;
        boolean refused = false;
        for (String line : example.split("\n")) {
            Matcher m = ANSWERED.matcher(line);
            if (m.matches()) {
                answers++;
                String name = m.group(2).replaceAll("\\(.*", "");
                printing.append(m.group(1)).append("System.out.println(\"").append(answers).append(' ').append(name)
                        .append(" \" + (").append(m.group(2)).append("));\n");
                due.append(answers).append(' ').append(name).append(' ').append(m.group(3)).append('\n');
            } else {
                boolean stands = line.trim().startsWith("x.") && !line.contains("x.feed(") && !refused;
                Check.is("a call without its answer: " + line, stands, false);
                printing.append(line).append('\n');
            }
            // the one call in a try is that which is refused
            refused = line.trim().equals("try {");
        }
        Check.is("answers are many", answers >= 10, true);
        Check.same("its answers", output(compiled("answering", printing.toString())), due.toString());
    }

    private Path compiled(String name, String source) throws IOException {
        Path out = root.resolve("build/readme/" + name);
        Files.createDirectories(out);
        Path file = out.resolve("Example.java");
        Files.writeString(file, source);
        JavaCompiler javac = ToolProvider.getSystemJavaCompiler();
        int status = javac.run(null, null, null, "-Xlint:all", "-Werror", "-encoding", "UTF-8",
                "-cp", System.getProperty("java.class.path"), "-d", out.toString(), file.toString());
        Check.is(name + " does not compile", status, 0);
        return out;
    }

    private static String output(Path classes) throws Exception {
        PrintStream usual = System.out;
        ByteArrayOutputStream said = new ByteArrayOutputStream();
        try (URLClassLoader loader = new URLClassLoader(new URL[] {classes.toUri().toURL()})) {
            System.setOut(new PrintStream(said, true, StandardCharsets.UTF_8));
            loader.loadClass("Example").getMethod("main", String[].class).invoke(null, (Object) new String[0]);
        } finally {
            System.setOut(usual);
        }
        return said.toString(StandardCharsets.UTF_8).replace("\r", "");
    }

    // ---- the commands

    private static Set<String> javaLines(String text) {
        Set<String> all = new TreeSet<>();
        for (String line : text.split("\n")) {
            String command = line.trim().replaceAll(" \\|\\| .*", "");
            if (command.startsWith("java ") || command.startsWith("javac ")) {
                all.add(command);
            }
        }
        return all;
    }

    private void commands() throws IOException {
        Check.begin("the commands");
        List<String> all = blocks("sh");
        Check.is("blocks of sh", all.size(), 2);
        Check.same("the first", all.get(0), ".ci/run\n");
        Check.is("it can be run", Files.isExecutable(root.resolve(".ci/run")), true);
        String script = Files.readString(root.resolve(".ci/run"));
        Check.is("how many", all.get(1).split("\n").length, 4);
        Check.same("those that .ci/run runs", javaLines(script).toString(), javaLines(all.get(1)).toString());
        Check.is("each of its lines is one", javaLines(all.get(1)).size(), 4);
    }

    private void ownTests() throws IOException {
        Check.begin("the tests");
        Set<String> there = new TreeSet<>();
        try (var files = Files.newDirectoryStream(root.resolve("src/test/java"), "*Test.java")) {
            for (Path file : files) {
                there.add(file.getFileName().toString().replace(".java", ""));
            }
        }
        Set<String> named = new TreeSet<>();
        Matcher m = Pattern.compile("`(\\w+Test)`").matcher(readme);
        while (m.find()) {
            named.add(m.group(1));
        }
        Check.same("those that it names", named.toString(), there.toString());
    }

    // ---- the calls

    private void calls() {
        Check.begin("the calls");
        for (Method one : DyeStreets.class.getDeclaredMethods()) {
            if (Modifier.isPublic(one.getModifiers())) {
                Check.is("names " + one.getName(), readme.contains("`" + one.getName() + "`"), true);
            }
        }
    }
}
