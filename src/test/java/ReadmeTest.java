import java.io.ByteArrayOutputStream;
import java.io.File;
import java.io.PrintStream;
import java.lang.reflect.Method;
import java.net.URL;
import java.net.URLClassLoader;
import java.nio.charset.StandardCharsets;
import java.nio.file.Files;
import java.nio.file.Path;
import javax.tools.ToolProvider;

/** README.md: its example compiles and prints what stands below it, and every call of the face is told. */
public final class ReadmeTest {
    private static String block(String readme, String kind) {
        int from = readme.indexOf("```" + kind + "\n");
        if (from < 0) return "";
        from = readme.indexOf('\n', from) + 1;
        return readme.substring(from, readme.indexOf("```", from));
    }

    private static String printed(Path folder) throws Exception {
        PrintStream own = System.out;
        ByteArrayOutputStream bytes = new ByteArrayOutputStream();
        try (URLClassLoader loader = new URLClassLoader(new URL[] {folder.toUri().toURL()}, TurningHall.class.getClassLoader())) {
            Method main = loader.loadClass("Example").getMethod("main", String[].class);
            System.setOut(new PrintStream(bytes, true, StandardCharsets.UTF_8));
            main.invoke(null, (Object) new String[0]);
        } finally {
            System.setOut(own);
        }
        return bytes.toString(StandardCharsets.UTF_8).replace("\r", "");
    }

    public static void main(String[] args) throws Exception {
        String readme = Files.readString(Path.of("README.md"));
        Path folder = Files.createTempDirectory("readme");
        Path source = folder.resolve("Example.java");
        Files.writeString(source, block(readme, "java"));
        int fails = ToolProvider.getSystemJavaCompiler().run(null, null, null, "-proc:none", "-cp", System.getProperty("java.class.path"), "-d", folder.toString(), source.toString());
        Check.due("the example does not compile", fails, 0);
        if (fails == 0) Check.due("the example", printed(folder), block(readme, "text"));
        for (File file : folder.toFile().listFiles()) file.delete();
        Files.delete(folder);
        for (Method m : TurningHall.class.getDeclaredMethods()) {
            if (java.lang.reflect.Modifier.isPublic(m.getModifiers())) Check.due(m.getName() + " is told", readme.contains("`" + m.getName() + "("), true);
        }
        Check.close("ReadmeTest");
    }
}
