import java.io.IOException;
import java.lang.invoke.MethodHandles;
import java.nio.file.Files;
import java.nio.file.Path;
import java.util.regex.Matcher;
import java.util.regex.Pattern;
import java.util.stream.Stream;
import javax.tools.JavaCompiler;
import javax.tools.ToolProvider;

/** What README.md says is so: its Java lines give the answers written behind them, and it leaves no call and no test out. */
public final class ReadmeTest {
    private static final Path README = Path.of("README.md");
    private static final Path TESTS = Path.of("src/test/java");
    private static final Pattern BLOCK = Pattern.compile("```java\n(.*?)```", Pattern.DOTALL);
    /** A call with its answer behind it, as in "x.load(20); // 0: no journeys" or "x.load(9); // throws SomeException". */
    private static final Pattern ANSWERED = Pattern.compile("^(\\S.*); +// (?:(-?[0-9]+)|throws (\\w+))(?:: .*)?$");

    private static final Check CHECK = new Check("ReadmeTest");
    private static int answers = 0;

    private ReadmeTest() {
    }

    public static void main(String[] args) throws IOException, ReflectiveOperationException {
        String readme = Files.readString(README);
        runExample(readme);
        CHECK.note(answers >= 20, "few answers in the README: " + answers);
        namesEachCall(readme);
        namesEachTest(readme);
        CHECK.end();
    }

    /** The lines of the README call this. */
    static void is(String call, long due, long got) {
        answers++;
        CHECK.equal("README, " + call, due, got);
    }

    /** The lines of the README call this. */
    static void raises(String call, Class<? extends RuntimeException> due, Runnable made) {
        answers++;
        CHECK.raises("README, " + call, due, made);
    }

    private static void runExample(String readme) throws IOException, ReflectiveOperationException {
        StringBuilder source = new StringBuilder("final class ReadmeExample implements Runnable {\npublic void run() {\n");
        for (Matcher block = BLOCK.matcher(readme); block.find();) {
            for (String line : block.group(1).split("\n")) {
                source.append(checked(line)).append('\n');
            }
        }
        source.append("}\n}\n");
        define(source.toString()).run();
    }

    private static String checked(String line) {
        Matcher answered = ANSWERED.matcher(line);
        if (!answered.matches()) {
            return line;
        }
        String call = answered.group(1);
        String quoted = "\"" + call.replace("\\", "\\\\").replace("\"", "\\\"") + "\"";
        return answered.group(2) == null
            ? "ReadmeTest.raises(" + quoted + ", " + answered.group(3) + ".class, () -> " + call + ");"
            : "ReadmeTest.is(" + quoted + ", " + answered.group(2) + "L, " + call + ");";
    }

    private static Runnable define(String source) throws IOException, ReflectiveOperationException {
        Path folder = Files.createTempDirectory("readme");
        Path file = folder.resolve("ReadmeExample.java");
        Path compiled = folder.resolve("ReadmeExample.class");
        Files.writeString(file, source);
        JavaCompiler javac = ToolProvider.getSystemJavaCompiler();
        int failed = javac.run(null, null, null, "-d", folder.toString(), "-cp", System.getProperty("java.class.path"),
            file.toString());
        if (failed != 0) {
            throw new IllegalStateException("the Java lines of the README do not compile:\n" + source);
        }
        byte[] code = Files.readAllBytes(compiled);
        for (Path path : new Path[] {file, compiled, folder}) {
            Files.delete(path);
        }
        return (Runnable) MethodHandles.lookup().defineClass(code).getDeclaredConstructor().newInstance();
    }

    private static void namesEachCall(String readme) {
        Stream.of(UndoJourneys.class.getMethods()).filter(m -> m.getDeclaringClass() == UndoJourneys.class)
            .forEach(m -> CHECK.note(readme.contains("`" + m.getName() + "("), "the README does not name " + m.getName()));
    }

    private static void namesEachTest(String readme) throws IOException {
        try (Stream<Path> files = Files.list(TESTS)) {
            files.map(f -> f.getFileName().toString()).filter(f -> f.endsWith("Test.java")).map(f -> f.replace(".java", ""))
                .forEach(t -> CHECK.note(readme.contains("`" + t + "`"), "the README does not name " + t));
        }
        Matcher named = Pattern.compile("`(\\w+Test)`").matcher(readme);
        while (named.find()) {
            CHECK.note(Files.exists(TESTS.resolve(named.group(1) + ".java")), "there is no " + named.group(1));
        }
    }
}
