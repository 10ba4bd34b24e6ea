import java.io.IOException;
import java.net.URL;
import java.net.URLClassLoader;
import java.nio.file.Files;
import java.nio.file.Path;
import java.util.ArrayList;
import java.util.List;
import java.util.regex.Matcher;
import java.util.regex.Pattern;
import java.util.stream.Stream;
import javax.tools.ToolProvider;

/** What README.md says of how to use the class is so: its code is compiled and run, and each answer it tells is due. */
public final class ReadmeTest {
    private static final Check CHECK = new Check("ReadmeTest");
    private static final Path README = Path.of("README.md");
    private static final Path RUN = Path.of(".ci/run");
    private static final Pattern ANSWERED = Pattern.compile("^(court\\.\\w+\\(.*\\)); *// (-?\\d+|true|false|No\\w+)\\b.*");
    private static int told = 0;

    public static void main(String[] args) throws Exception {
        String readme = Files.readString(README);
        List<String> blocks = blocks(readme);
        CHECK.due("blocks of code", blocks.size(), 2);
        List<long[]> answers = answers(program(blocks));
        CHECK.due("answers", answers.size(), told);
        CHECK.due("lines with an answer", told >= 25, true);
        List<String> lines = blocks.get(1).lines().filter(l -> ANSWERED.matcher(l).matches()).toList();
        for (int i = 0; i < lines.size(); i++) {
            CHECK.due(lines.get(i), answers.get(i)[0], answers.get(i)[1]);
        }
        constants(readme);
        tests(readme);
        CHECK.end();
    }

    private static List<String> blocks(String readme) {
        List<String> found = new ArrayList<>();
        Matcher m = Pattern.compile("(?s)```java\n(.*?)```").matcher(readme);
        while (m.find()) {
            found.add(m.group(1));
        }
        return found;
    }

    /** A class whose method says for each line that tells an answer what it got and what is due. */
    private static String program(List<String> blocks) {
        StringBuilder s = new StringBuilder("public final class ReadmeCode {\n");
        s.append(blocks.get(0));
        s.append("static long of(int n) { return n; }\nstatic long of(boolean b) { return b ? 1 : 0; }\n");
        s.append("public static void all(java.util.List<long[]> to) {\n");
        for (String line : blocks.get(1).split("\n")) {
            Matcher m = ANSWERED.matcher(line);
            s.append(m.matches() ? asked(m.group(1), m.group(2)) : line).append('\n');
        }
        return s.append("}\n}\n").toString();
    }

    private static String asked(String call, String answer) {
        told++;
        if (answer.startsWith("No")) {
            return "try { to.add(new long[] {of(" + call + "), Long.MIN_VALUE}); } catch (java.util." + answer
                    + " e) { to.add(new long[] {0, 0}); }";
        }
        return "to.add(new long[] {of(" + call + "), of(" + answer + ")});";
    }

    private static List<long[]> answers(String program) throws Exception {
        Path room = Files.createTempDirectory("readme");
        Path source = room.resolve("ReadmeCode.java");
        try {
            Files.writeString(source, program);
            int result = ToolProvider.getSystemJavaCompiler().run(null, null, null, "-cp",
                    System.getProperty("java.class.path"), "-d", room.toString(), source.toString());
            CHECK.due("README's code compiles", result, 0);
            List<long[]> answers = new ArrayList<>();
            try (URLClassLoader loader = new URLClassLoader(new URL[] {room.toUri().toURL()})) {
                loader.loadClass("ReadmeCode").getMethod("all", List.class).invoke(null, answers);
            }
            return answers;
        } finally {
            Files.deleteIfExists(room.resolve("ReadmeCode.class"));
            Files.deleteIfExists(source);
            Files.deleteIfExists(room);
        }
    }

    private static void constants(String readme) {
        CHECK.due("NONE", readme.contains("`CompanyCourt.NONE` (" + CompanyCourt.NONE + ")"), true);
        CHECK.due("HIDDEN", readme.contains("`CompanyCourt.HIDDEN` (" + CompanyCourt.HIDDEN + ")"), true);
    }

    /** The command that README names runs what is named there and all else that is a test. */
    private static void tests(String readme) throws IOException {
        String run = Files.readString(RUN);
        CHECK.due("the command", readme.contains("`bash .ci/run`"), true);
        CHECK.due("an executable", Files.isExecutable(RUN), true);
        CHECK.due("each test of the project is run", run.contains("for test in tests/*Test.java; do"), true);
        CHECK.due("each shared test is run", run.contains("for test in ../shared/tests/*.java; do"), true);
        try (Stream<Path> files = Files.list(Path.of("tests"))) {
            for (Path file : files.sorted().toList()) {
                String name = file.getFileName().toString();
                boolean helper = name.equals("Check.java");
                CHECK.due("README names " + name, helper || readme.contains("`tests/" + name + "`"), true);
            }
        }
        Matcher named = Pattern.compile("`(tests/\\w+\\.java)`").matcher(readme);
        while (named.find()) {
            CHECK.due("there is " + named.group(1), Files.exists(Path.of(named.group(1))), true);
        }
    }
}
