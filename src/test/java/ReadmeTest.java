import java.lang.reflect.Method;
import java.lang.reflect.Modifier;
import java.net.URL;
import java.net.URLClassLoader;
import java.nio.file.Files;
import java.nio.file.Path;
import java.util.ArrayList;
import java.util.List;
import java.util.regex.Matcher;
import java.util.regex.Pattern;
import javax.tools.ToolProvider;

/** README.md: each call of its use answers what it tells, and each call of the class is among them. */
final class ReadmeTest {
    private static final Pattern BLOCK = Pattern.compile("```java\n(.*?)```", Pattern.DOTALL);
    private static final Pattern TOLD = Pattern.compile("(x\\.(\\w+)\\(.*\\));\\s+// (true|false|-?\\d+)(: .*|)");

    private final StringBuilder helpers = new StringBuilder();
    private final StringBuilder use = new StringBuilder();
    private final List<String> calls = new ArrayList<>();
    private final List<String> names = new ArrayList<>();
    private final List<String> answers = new ArrayList<>();

    public static void main(String[] args) throws Exception {
        Check c = new Check();
        new ReadmeTest().play(c);
        c.finish();
    }

    private void play(Check c) throws Exception {
        String readme = Files.readString(Path.of("README.md"));
        for (Matcher block = BLOCK.matcher(readme); block.find();) {
            take(block.group(1));
        }
        String[] got = made();
        for (int k = 0; k < calls.size(); k++) {
            c.due("README.md, answer " + k + ", " + calls.get(k), got[k], answers.get(k));
        }
        for (Method method : WrongCook.class.getDeclaredMethods()) {
            if (Modifier.isPublic(method.getModifiers())) {
                c.due("README.md uses " + method.getName(), names.contains(method.getName()), true);
            }
        }
    }

    /** A block is a helper, or goes on with the use; there each answer that is told is asked for. */
    private void take(String block) {
        if (block.contains("static void")) {
            helpers.append(block);
            return;
        }
        for (String line : block.split("\n")) {
            Matcher told = TOLD.matcher(line);
            if (told.matches()) {
                use.append("said[").append(calls.size()).append("] = String.valueOf(").append(told.group(1)).append(");\n");
                calls.add(told.group(1));
                names.add(told.group(2));
                answers.add(told.group(3));
            } else {
                use.append(line).append('\n');
            }
        }
    }

    private String[] made() throws Exception {
        Path place = Files.createTempDirectory("readme");
        Path source = place.resolve("ReadmeUse.java");
        Files.writeString(source, "public final class ReadmeUse {\n" + helpers + "public static String[] said() {\n"
                + "String[] said = new String[" + calls.size() + "];\n" + use + "return said;\n}\n}\n");
        int wrong = ToolProvider.getSystemJavaCompiler().run(null, null, null, "-d", place.toString(),
                "-cp", System.getProperty("java.class.path"), source.toString());
        if (wrong != 0) {
            throw new IllegalStateException("the use in README.md does not compile");
        }
        URL[] places = {place.toUri().toURL()};
        try (URLClassLoader loader = new URLClassLoader(places, ReadmeTest.class.getClassLoader())) {
            return (String[]) loader.loadClass("ReadmeUse").getMethod("said").invoke(null);
        } finally {
            Files.delete(place.resolve("ReadmeUse.class"));
            Files.delete(source);
            Files.delete(place);
        }
    }
}
