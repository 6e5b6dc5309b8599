import java.io.ByteArrayOutputStream;
import java.io.File;
import java.io.IOException;
import java.io.PrintStream;
import java.lang.reflect.Method;
import java.lang.reflect.Modifier;
import java.net.URL;
import java.net.URLClassLoader;
import java.nio.file.Files;
import java.nio.file.Path;
import java.util.regex.Matcher;
import java.util.regex.Pattern;
import javax.tools.ToolProvider;

/** README.md: its program compiles and prints what the page says; every call and test is named. */
final class ReadmeTest {
    private static final Due due = new Due("ReadmeTest");

    public static void main(String[] args) throws Exception {
        String source = System.getProperty("source", "src/main/java/TaxOnLooks.java");
        Path root = Path.of(source).toAbsolutePath().getParent().getParent().getParent().getParent();
        String page = Files.readString(root.resolve("README.md"));
        program(block(page, "java"), block(page, "text"));
        calls(page);
        tests(page, root.resolve("src/test/java"));
        due.end();
    }

    private static String block(String page, String kind) {
        Matcher m = Pattern.compile("(?s)```" + kind + "\n(.*?)```").matcher(page);
        due.holds("a block of " + kind, m.find());
        return m.group(1);
    }

    private static void program(String program, String wanted) throws Exception {
        Path folder = Files.createTempDirectory("readme");
        Path file = folder.resolve("Evening.java");
        Files.writeString(file, program);
        int status = ToolProvider.getSystemJavaCompiler().run(null, null, null,
                "-cp", System.getProperty("java.class.path"), "-d", folder.toString(), file.toString());
        due.is("compiling the page's program", status, 0);
        if (status == 0) {
            due.holds("what the page's program prints", printed(folder).equals(wanted));
        }
        for (File made : folder.toFile().listFiles()) {
            Files.delete(made.toPath());
        }
        Files.delete(folder);
    }

    private static String printed(Path folder) throws Exception {
        PrintStream usual = System.out;
        ByteArrayOutputStream told = new ByteArrayOutputStream();
        try (URLClassLoader loader = new URLClassLoader(new URL[] {folder.toUri().toURL()})) {
            System.setOut(new PrintStream(told));
            Method main = loader.loadClass("Evening").getMethod("main", String[].class);
            main.invoke(null, (Object) new String[0]);
        } finally {
            System.out.flush();
            System.setOut(usual);
        }
        return told.toString().replace(System.lineSeparator(), "\n");
    }

    private static void calls(String page) {
        for (Method m : TaxOnLooks.class.getDeclaredMethods()) {
            if (Modifier.isPublic(m.getModifiers())) {
                due.holds(m.getName() + " is named", page.contains("`" + m.getName() + "`"));
            }
        }
    }

    private static void tests(String page, Path folder) throws IOException {
        for (File file : folder.toFile().listFiles()) {
            String name = file.getName().replace(".java", "");
            if (name.endsWith("Test") && !name.endsWith("EdgesTest")) {
                due.holds(name + " is named", page.contains("`" + name + "`"));
            }
        }
        Matcher named = Pattern.compile("`(\\w+Test)`").matcher(page);
        while (named.find()) {
            due.holds(named.group(1) + " is there", Files.exists(folder.resolve(named.group(1) + ".java")));
        }
    }
}
