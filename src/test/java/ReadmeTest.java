import java.io.ByteArrayOutputStream;
import java.io.IOException;
import java.io.PrintStream;
import java.lang.reflect.Method;
import java.lang.reflect.Modifier;
import java.net.URL;
import java.net.URLClassLoader;
import java.nio.file.Files;
import java.nio.file.Path;
import java.util.stream.Stream;
import javax.tools.ToolProvider;

/** The program of README.md prints what stands behind it, and README.md names every call of the face. */
public final class ReadmeTest {
    public static void main(String[] args) throws Exception {
        String readme = Files.readString(Path.of("README.md"));
        Checks.part("README.md: the calls");
        for (Method m : NotWhereYesterday.class.getDeclaredMethods()) {
            if (Modifier.isPublic(m.getModifiers())) {
                Checks.yes("has " + m.getName(), readme.contains("`" + m.getName() + "("));
            }
        }
        Checks.part("README.md: the program");
        String[] got = printedBy(block(readme, "```java\n")).split("\n");
        String[] want = block(readme, "```text\n").split("\n");
        Checks.is("lines", got.length, want.length);
        for (int i = 0; i < got.length && i < want.length; i++) {
            Checks.yes("'" + got[i] + "' where '" + want[i] + "' is due", got[i].equals(want[i]));
        }
        Checks.end();
    }

    private static String block(String readme, String opening) {
        int from = readme.indexOf(opening) + opening.length();
        return readme.substring(from, readme.indexOf("```", from));
    }

    private static String printedBy(String program) throws Exception {
        Path home = Files.createTempDirectory("readme");
        try {
            Path source = home.resolve("WallExample.java");
            Files.writeString(source, program);
            int code = ToolProvider.getSystemJavaCompiler().run(null, null, null, "-d", home.toString(), "-cp",
                    System.getProperty("java.class.path"), source.toString());
            Checks.is("its compiling", code, 0);
            return code == 0 ? runIn(home) : "";
        } finally {
            clear(home);
        }
    }

    private static String runIn(Path home) throws Exception {
        PrintStream out = System.out;
        ByteArrayOutputStream printed = new ByteArrayOutputStream();
        try (URLClassLoader loader = new URLClassLoader(new URL[] {home.toUri().toURL()})) {
            System.setOut(new PrintStream(printed, true));
            loader.loadClass("WallExample").getMethod("main", String[].class).invoke(null, (Object) new String[0]);
        } finally {
            System.setOut(out);
        }
        return printed.toString().replace("\r", "");
    }

    private static void clear(Path home) throws IOException {
        try (Stream<Path> files = Files.list(home)) {
            for (Path file : files.toList()) {
                Files.delete(file);
            }
        }
        Files.delete(home);
    }
}
