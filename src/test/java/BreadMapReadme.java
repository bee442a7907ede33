import java.io.ByteArrayOutputStream;
import java.io.IOException;
import java.io.PrintStream;
import java.net.URL;
import java.net.URLClassLoader;
import java.nio.charset.StandardCharsets;
import java.nio.file.Files;
import java.nio.file.Path;

/** The program in README.md, compiled and run, tells what stands under it; run from the project's folder. */
public final class BreadMapReadme {
    public static void main(String[] args) throws Exception {
        String readme = Files.readString(Path.of("README.md"), StandardCharsets.UTF_8);
        Path folder = Files.createTempDirectory("readme");
        Path source = folder.resolve("Example.java");
        Path compiled = folder.resolve("Example.class");
        String told;
        try {
            Files.writeString(source, block(readme, "java"));
            told = compile(source, folder) ? run(folder) : "nothing: it does not compile";
        } finally {
            Files.deleteIfExists(compiled);
            Files.deleteIfExists(source);
            Files.delete(folder);
        }
        String due = block(readme, "text");
        if (!told.equals(due)) {
            System.out.println("README.md says:\n" + due + "its program tells:\n" + told);
            System.exit(1);
        }
        System.out.println("the program in README.md tells what README.md says");
    }

    private static String block(String readme, String kind) throws IOException {
        String begins = "```" + kind + "\n";
        int from = readme.indexOf(begins);
        int to = readme.indexOf("```\n", from + begins.length());
        if (from < 0 || to < 0) {
            throw new IOException("README.md has no block of " + kind);
        }
        return readme.substring(from + begins.length(), to);
    }

    private static boolean compile(Path source, Path folder) throws Exception {
        return new ProcessBuilder("javac", "-classpath", System.getProperty("java.class.path"), "-d", folder.toString(), source.toString())
            .inheritIO().start().waitFor() == 0;
    }

    private static String run(Path folder) throws Exception {
        PrintStream screen = System.out;
        ByteArrayOutputStream told = new ByteArrayOutputStream();
        try (URLClassLoader loader = new URLClassLoader(new URL[] {folder.toUri().toURL()})) {
            System.setOut(new PrintStream(told, true, StandardCharsets.UTF_8));
            loader.loadClass("Example").getMethod("main", String[].class).invoke(null, (Object) new String[0]);
        } finally {
            System.setOut(screen);
        }
        return told.toString(StandardCharsets.UTF_8).replace("\r\n", "\n");
    }
}
