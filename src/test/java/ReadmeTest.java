import java.io.IOException;
import java.lang.reflect.Method;
import java.net.URL;
import java.net.URLClassLoader;
import java.nio.file.Files;
import java.nio.file.Path;
import java.util.ArrayList;
import java.util.List;
import java.util.Set;
import java.util.TreeSet;
import java.util.regex.Matcher;
import java.util.regex.Pattern;
import javax.tools.ToolProvider;

/** The example of README.md: it compiles (its calls with their answers kept), and answers what it says behind //. */
public final class ReadmeTest {
    private static final Check CHECK = new Check();
    private static final Pattern BLOCK = Pattern.compile("(?s)```java\n(.*?)```");
    private static final Pattern ANSWERED = Pattern.compile("(x\\.(\\w+)\\(.*\\)); +// (-?\\d+):.*");

    public static void main(String[] args) throws IOException, ReflectiveOperationException {
        List<String> blocks = blocksOf(Files.readString(Path.of("README.md")));
        CHECK.due("blocks of Java in README.md", 2, blocks.size());
        if (blocks.size() == 2) {
            List<Integer> want = new ArrayList<>();
            int[] got = run(exampleOf(blocks.get(0), blocks.get(1), want), want.size());
            String[] lines = blocks.get(1).lines().filter(line -> ANSWERED.matcher(line).matches()).toArray(String[]::new);
            for (int k = 0; k < got.length; k++) {
                CHECK.due("README.md, " + lines[k], want.get(k), got[k]);
            }
        }
        CHECK.end();
    }

    private static List<String> blocksOf(String readme) {
        List<String> blocks = new ArrayList<>();
        Matcher m = BLOCK.matcher(readme);
        while (m.find()) {
            blocks.add(m.group(1));
        }
        return blocks;
    }

    /** The example as a class that keeps what its calls answer; each call on a line of its own tells its answer. */
    private static String exampleOf(String helper, String calls, List<Integer> want) {
        StringBuilder b = new StringBuilder("public final class Example {\n" + helper + "public static void run(int[] got) {\n");
        Set<String> used = new TreeSet<>(Set.of("type"));
        for (String line : calls.lines().toList()) {
            Matcher m = ANSWERED.matcher(line);
            if (m.matches()) {
                b.append("got[").append(want.size()).append("] = ").append(m.group(1)).append(";\n");
                want.add(Integer.parseInt(m.group(3)));
                used.add(m.group(2));
            } else {
                CHECK.that("an answer stands behind " + line, !line.startsWith("x."));
                b.append(line).append('\n');
            }
        }
        Set<String> names = new TreeSet<>();
        for (Method method : MayMust.class.getMethods()) {
            if (method.getDeclaringClass() == MayMust.class) {
                names.add(method.getName());
            }
        }
        CHECK.same("the calls that README.md shows", names.toString(), used.toString());
        return b.append("}\n}\n").toString();
    }

    private static int[] run(String source, int answers) throws IOException, ReflectiveOperationException {
        Path folder = Files.createTempDirectory("readme");
        Path file = folder.resolve("Example.java");
        int[] got = new int[answers];
        try {
            Files.writeString(file, source);
            String path = System.getProperty("java.class.path");
            int exit = ToolProvider.getSystemJavaCompiler().run(null, null, null, "-cp", path, "-d", folder.toString(), file.toString());
            CHECK.due("javac of the example", 0, exit);
            try (URLClassLoader loader = new URLClassLoader(new URL[] {folder.toUri().toURL()})) {
                loader.loadClass("Example").getMethod("run", int[].class).invoke(null, (Object) got);
            }
        } finally {
            Files.deleteIfExists(file);
            Files.deleteIfExists(folder.resolve("Example.class"));
            Files.deleteIfExists(folder);
        }
        return got;
    }
}
