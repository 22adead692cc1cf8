import java.io.IOException;
import java.net.URL;
import java.net.URLClassLoader;
import java.nio.file.Files;
import java.nio.file.Path;
import java.util.regex.Matcher;
import java.util.regex.Pattern;

/** The example of README.md compiles, and each call in it answers what stands behind it. */
public final class ReadmeExample extends Bench {
    private static final Pattern EXAMPLE = Pattern.compile("```java\\n(.*?)```", Pattern.DOTALL);
    private static final Pattern ANSWERED = Pattern.compile(
            "\\n {8}((?:lift\\.\\w+|tell)\\([^;]*?\\)|tell\\(.*?\"\\)); +// (-?\\d+)", Pattern.DOTALL);

    private static int asked = 0;

    /** Public, since the example is loaded apart. */
    public static void answers(String call, long got, long want) {
        asked++;
        due(call, got, want);
    }

    /** Each call with an answer behind it becomes a question. */
    private static String asQuestions(String example) {
        Matcher m = ANSWERED.matcher(example);
        return m.replaceAll(found -> Matcher.quoteReplacement("\n        ReadmeExample.answers(\""
                + found.group(1).replaceAll("[\"\\n]", " ") + "\", " + found.group(1) + ", " + found.group(2) + "L);//"));
    }

    private static void run(String source) throws IOException, InterruptedException,
            ReflectiveOperationException {
        Path folder = Files.createTempDirectory("readme");
        Path file = folder.resolve("Example.java");
        Files.writeString(file, source);
        due("javac of the example", new ProcessBuilder("javac", "-cp", System.getProperty("java.class.path"), "-d",
                folder.toString(), file.toString()).inheritIO().start().waitFor(), 0);
        try (URLClassLoader loader = new URLClassLoader(new URL[] {folder.toUri().toURL()})) {
            loader.loadClass("Example").getMethod("main", String[].class).invoke(null, (Object) new String[0]);
        }
        try (var files = Files.list(folder)) {
            for (Path made : files.toList()) {
                Files.delete(made);
            }
        }
        Files.delete(folder);
    }

    public static void main(String[] args) throws IOException, InterruptedException,
            ReflectiveOperationException {
        Matcher m = EXAMPLE.matcher(Files.readString(Path.of("README.md")));
        due("an example in README.md", m.find() ? 1 : 0, 1);
        String example = m.group(1);
        run(asQuestions(example));
        due("calls with an answer behind them", asked, example.split("; +// -?\\d", -1).length - 1);
        finish();
    }
}
