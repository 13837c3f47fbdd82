import java.net.URL;
import java.net.URLClassLoader;
import java.nio.file.Files;
import java.nio.file.Path;
import java.util.ArrayList;
import java.util.List;
import java.util.regex.Matcher;
import java.util.regex.Pattern;
import javax.tools.JavaCompiler;
import javax.tools.ToolProvider;

/** What README.md shows compiles, and each call that it shows with an answer answers so. */
public final class ReadmeTest {
    private static final Pattern SHOWN = Pattern.compile("```java\n(.*?)```", Pattern.DOTALL);
    private static final Pattern ANSWERED = Pattern.compile("(?m)^(bureau\\..*);\\s*// (-?\\d+|true|false)\\b.*$");

    public static void main(String[] args) throws Exception {
        Matcher shown = SHOWN.matcher(Files.readString(Path.of("README.md")));
        String helper = shown.find() ? shown.group(1) : "";
        String calls = shown.find() ? shown.group(1) : "";
        String asking = ANSWERED.matcher(calls).replaceAll("asked.add(new String[] {\"$1\", \"\" + $1, \"$2\"});");
        Path dir = Files.createTempDirectory("readme");
        Path file = dir.resolve("Shown.java");
        Path made = dir.resolve("Shown.class");
        List<String[]> asked = new ArrayList<>();
        try {
            Files.writeString(file, "public final class Shown {\n" + helper
                + "public static void calls(java.util.List<String[]> asked) {\n" + asking + "}\n}\n");
            run(dir, file, asked);
        } finally {
            Files.deleteIfExists(made);
            Files.deleteIfExists(file);
            Files.deleteIfExists(dir);
        }
        Check check = new Check("readme");
        check.due("all calls are asked", asked.size(), calls.split("(?m)^bureau\\.", -1).length - 1);
        for (String[] one : asked) {
            check.alike(one[0], one[1], one[2]);
        }
        check.end();
    }

    private static void run(Path dir, Path file, List<String[]> asked) throws Exception {
        JavaCompiler compiler = ToolProvider.getSystemJavaCompiler();
        List<String> options = List.of("-proc:none", "-cp", System.getProperty("java.class.path"), "-d", dir.toString());
        boolean compiles = compiler.getTask(null, null, null, options, null,
            compiler.getStandardFileManager(null, null, null).getJavaFileObjects(file.toFile())).call();
        if (compiles) {
            try (URLClassLoader loader = new URLClassLoader(new URL[] {dir.toUri().toURL()})) {
                loader.loadClass("Shown").getMethod("calls", List.class).invoke(null, asked);
            }
        }
    }
}
