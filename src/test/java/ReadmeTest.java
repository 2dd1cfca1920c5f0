import java.net.URL;
import java.net.URLClassLoader;
import java.nio.file.Files;
import java.nio.file.Path;
import javax.tools.ToolProvider;

/** The example of README.md compiles, and answers what its comments say. */
public final class ReadmeTest {
    public static void main(String[] args) throws Exception {
        String readme = Files.readString(Path.of("README.md"));
        String opening = "```java\n";
        int from = readme.indexOf(opening) + opening.length();
        String example = readme.substring(from, readme.indexOf("```", from));
        int[] answers = answers(example);
        Due.same("fault", answers[0], 0);
        Due.same("light", answers[1], 15);
        Due.same("bytes", answers[2], 27);
        Due.yes("light is said", example.contains("x.sector(0, 4);        // 15\n"));
        Due.yes("bytes are said", example.contains("x.write();             // 27;"));
        Due.end();
    }

    private static int[] answers(String example) throws Exception {
        Path built = Files.createTempDirectory("readme");
        Path source = built.resolve("Example.java");
        Files.writeString(source, "public class Example { public static int[] answers() {\n" + example
            + "return new int[] {fault, light, bytes}; } }\n");
        String path = System.getProperty("java.class.path");
        int exit = ToolProvider.getSystemJavaCompiler().run(null, null, null, "-cp", path, "-d",
            built.toString(), source.toString());
        Due.same("javac of the example", exit, 0);
        try (URLClassLoader loader = new URLClassLoader(new URL[] {built.toUri().toURL()})) {
            return (int[]) loader.loadClass("Example").getMethod("answers").invoke(null);
        } finally {
            Files.deleteIfExists(built.resolve("Example.class"));
            Files.delete(source);
            Files.delete(built);
        }
    }
}
