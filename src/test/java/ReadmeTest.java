import java.io.IOException;
import java.lang.reflect.Method;
import java.lang.reflect.Modifier;
import java.net.URL;
import java.net.URLClassLoader;
import java.nio.file.Files;
import java.nio.file.Path;
import java.util.ArrayList;
import java.util.List;
import java.util.regex.Matcher;
import java.util.regex.Pattern;
import javax.tools.ToolProvider;

/** What README.md tells of the use of the class: its Java answers what stands behind the calls; each call is named. */
public final class ReadmeTest {
    private static final Pattern BLOCK = Pattern.compile("(?ms)^```java\\n(.*?)^```$");
    private static final Pattern CALL = Pattern.compile("^((?:x\\.|read\\().*\\)); *// (-?\\d+)(?:: .*)?$");
    private static final Pattern ROW = Pattern.compile("(?m)^\\|((?: `\\w+`)+) \\|");

    private final List<String> calls = new ArrayList<>();
    private final List<Integer> due = new ArrayList<>();

    public static void main(String[] args) throws IOException, ReflectiveOperationException {
        String page = Files.readString(Path.of("README.md"));
        names(page);
        new ReadmeTest().answers(page);
        Due.end();
    }

    private static void names(String page) {
        StringBuilder rows = new StringBuilder();
        Matcher row = ROW.matcher(page);
        while (row.find()) rows.append(row.group(1));
        for (Method m : DeadStick.class.getDeclaredMethods()) {
            boolean isPublic = Modifier.isPublic(m.getModifiers());
            if (isPublic) Due.is("README.md names " + m.getName(), rows.indexOf("`" + m.getName() + "`") >= 0 ? 1 : 0, 1);
        }
    }

    private void answers(String page) throws IOException, ReflectiveOperationException {
        int[] got = got(program(page));
        Due.is("README.md has calls with answers", calls.size() >= 30 ? 1 : 0, 1);
        for (int i = 0; i < got.length; i++) Due.is("README.md: " + calls.get(i), got[i], due.get(i));
    }

    /** The page's Java as one program, which puts the answers of its calls into a row. */
    private String program(String page) {
        StringBuilder methods = new StringBuilder();
        StringBuilder run = new StringBuilder();
        Matcher block = BLOCK.matcher(page);
        while (block.find()) {
            if (block.group(1).startsWith("static ")) methods.append(block.group(1));
            else for (String line : block.group(1).split("\n")) run.append(asked(line)).append('\n');
        }
        return "public final class Page {\n" + methods + "public static int[] got() {\nint[] got = new int[" + calls.size()
            + "];\n" + run + "return got;\n}\n}\n";
    }

    private String asked(String line) {
        Matcher call = CALL.matcher(line);
        if (!call.matches()) {
            Due.is("it tells no answer: " + line, line.startsWith("DeadStick x = ") ? 1 : 0, 1);
            return line;
        }
        calls.add(call.group(1));
        due.add(Integer.parseInt(call.group(2)));
        return "got[" + (calls.size() - 1) + "] = " + call.group(1) + ";";
    }

    private static int[] got(String program) throws IOException, ReflectiveOperationException {
        Path folder = Files.createTempDirectory("readme");
        Path source = folder.resolve("Page.java");
        Path made = folder.resolve("Page.class");
        Files.writeString(source, program);
        String[] options = {"-cp", System.getProperty("java.class.path"), "-d", folder.toString(), source.toString()};
        Due.is("README.md's Java compiles", ToolProvider.getSystemJavaCompiler().run(null, null, null, options), 0);
        int[] got = Files.exists(made) ? ran(folder) : new int[0];
        Files.deleteIfExists(made);
        Files.delete(source);
        Files.delete(folder);
        return got;
    }

    private static int[] ran(Path folder) throws IOException, ReflectiveOperationException {
        URL[] where = {folder.toUri().toURL()};
        try (URLClassLoader loader = new URLClassLoader(where, ReadmeTest.class.getClassLoader())) {
            return (int[]) loader.loadClass("Page").getMethod("got").invoke(null);
        }
    }
}
