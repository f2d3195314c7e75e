import java.io.ByteArrayOutputStream;
import java.io.IOException;
import java.io.PrintStream;
import java.lang.reflect.Method;
import java.lang.reflect.Modifier;
import java.net.URL;
import java.net.URLClassLoader;
import java.nio.charset.StandardCharsets;
import java.nio.file.Files;
import java.nio.file.Path;
import javax.tools.ToolProvider;

/** The program of README.md prints what README.md says, and each call of the class is named there. */
public final class ReadmeTest {
    private static final Path README = Path.of("README.md");

    private static int wrong = 0;

    private static void hold(boolean holds, String what) {
        if (!holds) {
            wrong++;
            System.out.println("does not hold: " + what);
        }
    }

    /** The first piece of README.md that is marked as of this kind. */
    private static String piece(String readme, String kind) {
        String mark = "\n```" + kind + "\n";
        int from = readme.indexOf(mark);
        int upTo = from < 0 ? -1 : readme.indexOf("\n```\n", from + mark.length() - 1);
        hold(upTo >= 0, "README.md has a piece of " + kind);
        return upTo < 0 ? "" : readme.substring(from + mark.length(), upTo + 1);
    }

    private static String printed(String program) throws IOException, ReflectiveOperationException {
        Path out = Files.createTempDirectory("readme");
        Path source = out.resolve("Example.java");
        Files.writeString(source, program);
        String path = System.getProperty("java.class.path");
        int code = ToolProvider.getSystemJavaCompiler().run(null, null, null,
            "-Xlint:all", "-Werror", "-cp", path, "-d", out.toString(), source.toString());
        hold(code == 0, "the program of README.md compiles");
        String text = code == 0 ? run(out) : "";
        Files.deleteIfExists(out.resolve("Example.class"));
        Files.delete(source);
        Files.delete(out);
        return text;
    }

    private static String run(Path out) throws IOException, ReflectiveOperationException {
        ByteArrayOutputStream bytes = new ByteArrayOutputStream();
        PrintStream before = System.out;
        try (URLClassLoader loader = new URLClassLoader(new URL[] {out.toUri().toURL()})) {
            Method main = loader.loadClass("Example").getMethod("main", String[].class);
            System.setOut(new PrintStream(bytes, true, StandardCharsets.UTF_8));
            main.invoke(null, (Object) new String[0]);
        } finally {
            System.setOut(before);
        }
        return bytes.toString(StandardCharsets.UTF_8).replace(System.lineSeparator(), "\n");
    }

    public static void main(String[] args) throws Exception {
        String readme = Files.readString(README);
        String got = printed(piece(readme, "java"));
        String due = piece(readme, "text");
        hold(got.equals(due), "it prints:\n" + due + "but it printed:\n" + got);
        for (Method m : StruckBeats.class.getDeclaredMethods()) {
            boolean isPublic = Modifier.isPublic(m.getModifiers());
            hold(!isPublic || readme.contains("`" + m.getName() + "`"), "README.md names " + m.getName());
        }
        hold(readme.contains("\n.ci/run\n"), "README.md says how to run the tests");
        System.out.println(wrong + " wrong");
        if (wrong != 0) {
            System.exit(1);
        }
    }
}
