import java.io.IOException;
import java.net.URLClassLoader;
import java.nio.file.Files;
import java.nio.file.Path;
import java.util.ArrayList;
import java.util.List;
import java.util.regex.Matcher;
import java.util.regex.Pattern;
import java.lang.reflect.Method;
import java.lang.reflect.Modifier;
import javax.tools.ToolProvider;

/** README.md: it names every call, and its example, compiled as it stands there, answers what it says. */
public final class ReadmeTest {
    private static final Path README = Path.of("README.md");
    private static final Pattern BLOCK = Pattern.compile("```java\n(.*?)```", Pattern.DOTALL);
    private static final Pattern ANSWERED = Pattern.compile("^(\\S.*); +// (-?\\d+|true|false)\\b.*$");

    public static void main(String[] args) throws Exception {
        String page = Files.readString(README);
        int wrong = namesEveryCall(page) + example(page);
        System.out.println(wrong == 0 ? "the page is right" : wrong + " things on the page are not right");
        if (wrong != 0) System.exit(1);
    }

    private static int namesEveryCall(String page) {
        int wrong = 0;
        for (Method m : PlantedDoubts.class.getDeclaredMethods()) {
            if (Modifier.isPublic(m.getModifiers()) && !page.contains("`" + m.getName() + "`")) {
                wrong++;
                System.out.println("README.md does not name " + m.getName());
            }
        }
        return wrong;
    }

    private static int example(String page) throws Exception {
        List<String> blocks = new ArrayList<>();
        Matcher m = BLOCK.matcher(page);
        while (m.find()) blocks.add(m.group(1));
        if (blocks.size() != 2) {
            System.out.println("README.md has " + blocks.size() + " examples, not a helper and an example");
            return 1;
        }
        Path dir = Files.createTempDirectory("readme");
        try {
            return run(dir, written(blocks.get(0), blocks.get(1)));
        } finally {
            try (var files = Files.list(dir)) {
                for (Path file : files.toList()) Files.delete(file);
            }
            Files.delete(dir);
        }
    }

    private static String written(String helper, String example) {
        StringBuilder s = new StringBuilder("public final class ReadmeExample {\n").append(helper);
        s.append("static int wrong = 0;\n");
        s.append("static void due(String call, Object got, Object want) {\n");
        s.append("if (!got.equals(want)) { wrong++; System.out.println(\"README.md: \" + call + \" answered \" + got + \", it says \" + want); } }\n");
        s.append("public static int run() {\n");
        int calls = 0;
        for (String line : example.split("\n")) {
            Matcher m = ANSWERED.matcher(line);
            if (m.matches()) {
                calls++;
                s.append("due(\"").append(m.group(1).replace("\"", "\\\"")).append("\", ").append(m.group(1)).append(", ").append(m.group(2)).append(");\n");
            } else {
                s.append(line).append('\n');
            }
        }
        if (calls < 30) throw new IllegalStateException("only " + calls + " calls of README.md have an answer");
        return s.append("return wrong;\n}\n}\n").toString();
    }

    private static int run(Path dir, String source) throws IOException, ReflectiveOperationException {
        Path file = dir.resolve("ReadmeExample.java");
        Files.writeString(file, source);
        int compiled = ToolProvider.getSystemJavaCompiler().run(null, null, null,
            "-d", dir.toString(), "-cp", System.getProperty("java.class.path"), file.toString());
        if (compiled != 0) return 1;
        try (URLClassLoader loader = new URLClassLoader(new java.net.URL[] {dir.toUri().toURL()})) {
            return (Integer) loader.loadClass("ReadmeExample").getMethod("run").invoke(null);
        }
    }
}
