import java.io.IOException;
import java.lang.reflect.Method;
import java.lang.reflect.Modifier;
import java.net.URL;
import java.net.URLClassLoader;
import java.nio.file.DirectoryStream;
import java.nio.file.Files;
import java.nio.file.Path;
import java.util.Set;
import java.util.TreeSet;
import java.util.function.BiConsumer;
import java.util.regex.Matcher;
import java.util.regex.Pattern;
import javax.tools.ToolProvider;

/** Whether README.md is true: its run of calls, its STATUS numbers, and what it says of .ci/run and the tests. */
public final class ReadmeTest {
    /** A call, and behind it what it answers. */
    private static final Pattern CALL = Pattern.compile("(.*);\\s*// (NONE|true|false|-?\\d+)(: .*)?");
    private static final int MOST_CALLS = 512;

    private static int wrong;

    public static void main(String[] args) throws Exception {
        String readme = Files.readString(Path.of("README.md"));
        String use = section(readme, "Use");
        String tests = section(readme, "Tests");
        everyCallIsTold(use);
        runOfCalls(use);
        statusNumbers(use);
        commands(tests);
        testsThereAre(tests);
        System.out.println(wrong == 0 ? "ReadmeTest: all as due" : "ReadmeTest: " + wrong + " are not as due");
        if (wrong != 0) {
            System.exit(1);
        }
    }

    private static void due(boolean holds, String what) {
        if (!holds) {
            wrong++;
            System.out.println("README.md: " + what);
        }
    }

    private static String section(String readme, String title) {
        int begins = readme.indexOf("\n## " + title + "\n");
        due(begins >= 0, "there is no section " + title);
        int ends = readme.indexOf("\n## ", begins + 1);
        return begins < 0 ? "" : readme.substring(begins, ends < 0 ? readme.length() : ends);
    }

    private static Matcher blocks(String text, String language) {
        return Pattern.compile("(?s)```" + language + "\n(.*?)```").matcher(text);
    }

    private static void everyCallIsTold(String use) {
        StringBuilder code = new StringBuilder();
        Matcher blocks = blocks(use, "java");
        while (blocks.find()) {
            code.append(blocks.group(1));
        }
        for (Method method : PostUnion.class.getDeclaredMethods()) {
            boolean isTold = code.indexOf("union." + method.getName() + "(") >= 0;
            due(isTold || !Modifier.isPublic(method.getModifiers()), "no example of " + method.getName() + "()");
        }
    }

    /** All its Java, one block behind the other, is compiled and run; blocks that begin with static are methods. */
    private static void runOfCalls(String use) throws Exception {
        StringBuilder methods = new StringBuilder();
        StringBuilder calls = new StringBuilder();
        Matcher blocks = blocks(use, "java");
        while (blocks.find()) {
            String code = blocks.group(1);
            if (code.startsWith("static ")) {
                methods.append(code);
            } else {
                code.lines().forEach(line -> calls.append(checked(line)).append('\n'));
            }
        }
        due(calls.length() > 0, "there is no run of calls");
        String source = "import java.util.function.BiConsumer;\n"
                + "public final class ReadmeRun {\n"
                + "static final int NONE = PostUnion.NONE;\n"
                + methods
                + "public static void run(BiConsumer<String, Object[]> is) {\n" + calls + "}\n}\n";
        Path out = Files.createTempDirectory("readme");
        try {
            Path file = Files.writeString(out.resolve("ReadmeRun.java"), source);
            int failed = ToolProvider.getSystemJavaCompiler().run(null, null, null,
                    "-cp", System.getProperty("java.class.path"), "-d", out.toString(), file.toString());
            due(failed == 0, "its Java can't be compiled");
            if (failed == 0) {
                run(out);
            }
        } finally {
            clear(out);
        }
    }

    private static String checked(String line) {
        Matcher call = CALL.matcher(line);
        if (!call.matches()) {
            due(!line.contains("//"), "what is answered here? " + line);
            return line;
        }
        return "is.accept(\"" + call.group(1).replace("\"", "'") + "\", new Object[] {" + call.group(1) + ", " + call.group(2) + "});";
    }

    private static void run(Path out) throws Exception {
        int[] calls = {0};
        BiConsumer<String, Object[]> is = (call, both) -> {
            calls[0]++;
            String got = both[0].toString();
            due(got.equals(both[1].toString()), call + " answers " + got);
        };
        try (URLClassLoader loader = new URLClassLoader(new URL[] {out.toUri().toURL()}, ReadmeTest.class.getClassLoader())) {
            loader.loadClass("ReadmeRun").getMethod("run", BiConsumer.class).invoke(null, is);
        }
        // The calls of feed() are not counted: two TREATIES take no more than 60 of them.
        due(calls[0] > 57 && calls[0] + 60 <= MOST_CALLS, "its run has " + calls[0] + " calls");
    }

    private static void clear(Path directory) throws IOException {
        try (DirectoryStream<Path> files = Files.newDirectoryStream(directory)) {
            for (Path file : files) {
                Files.delete(file);
            }
        }
        Files.delete(directory);
    }

    private static void statusNumbers(String use) throws IOException {
        String terms = Files.readString(Path.of("../shared/DOC.md"));
        terms = terms.substring(terms.indexOf("STATUS of a call is the first"), terms.indexOf("The constants:"));
        Matcher row = Pattern.compile("(?m)^\\| (\\d) +\\| (.*?) +\\|$").matcher(use);
        int rows = 0;
        while (row.find()) {
            due(row.group(1).equals("" + rows), "STATUS " + rows + " is missing");
            due(rows == 0 || terms.contains(" " + rows + " " + row.group(2) + "."), "STATUS " + rows + " is not " + row.group(2));
            rows++;
        }
        due(rows == 10, "there are " + rows + " rows of STATUS");
    }

    /** One test alone is compiled and run by the same commands as in .ci/run. */
    private static void commands(String tests) throws IOException {
        String script = Files.readString(Path.of(".ci/run"));
        Matcher commands = Pattern.compile("if ! (javac? .*); then").matcher(script);
        int found = 0;
        while (commands.find()) {
            String alone = commands.group(1).replace("\"$1\"", "src/test/java").replace("\"$main\"", "src/main/java/PostUnion.java")
                    .replace("\"$test\"", "src/test/java/WaysTest.java").replace("\"$name\"", "WaysTest");
            due(tests.contains("\n" + alone + "\n"), "it doesn't say: " + alone);
            found++;
        }
        due(found == 2, ".ci/run has " + found + " commands for a test");
        due(tests.contains("```sh\n.ci/run\n```"), "it doesn't say how all tests are run");
        for (String printed : new String[] {"== ", "FAILED", "all tests passed"}) {
            due(tests.contains("`" + printed + "`") && script.contains("echo \"" + printed), ".ci/run and " + printed);
        }
        for (String place : new String[] {"src/test/java", "../shared/tests"}) {
            due(tests.contains("`" + place + "`") && script.contains(place), ".ci/run and " + place);
        }
        due(Files.isExecutable(Path.of(".ci/run")), ".ci/run can't be executed");
    }

    private static void testsThereAre(String tests) throws IOException {
        Set<String> told = new TreeSet<>();
        Matcher name = Pattern.compile("`(\\w+Test)`").matcher(tests);
        while (name.find()) {
            told.add(name.group(1));
        }
        Set<String> there = new TreeSet<>();
        try (DirectoryStream<Path> files = Files.newDirectoryStream(Path.of("src/test/java"), "*.java")) {
            for (Path file : files) {
                if (Files.readString(file).contains("void main(")) {
                    there.add(file.getFileName().toString().replace(".java", ""));
                }
            }
        }
        due(told.equals(there), "it tells of the tests " + told + ", there are " + there);
        Matcher runs = Pattern.compile("Integer.parseInt\\(args\\[0\\]\\) : (\\d+);").matcher(Files.readString(Path.of("src/test/java/ModelTest.java")));
        due(runs.find() && tests.contains("(" + runs.group(1) + " without)"), "how many drawn runs");
    }
}
