import java.io.IOException;
import java.net.URL;
import java.net.URLClassLoader;
import java.nio.file.Files;
import java.nio.file.Path;
import java.util.Map;
import java.util.TreeMap;
import java.util.regex.Matcher;
import java.util.regex.Pattern;
import javax.tools.JavaCompiler;
import javax.tools.ToolProvider;

/** Runs the calls of README.md one behind the other: each answers what stands behind it. */
public final class ReadmeTest {
    private static final Check c = new Check("ReadmeTest");
    private static final Path README = Path.of("README.md");
    private static final Path OUT = Path.of("build", "readme");
    private static final Pattern BLOCK = Pattern.compile("```java\n(.*?)```", Pattern.DOTALL);
    private static final Pattern ANSWERED =
            Pattern.compile("(.*;)\\s*// (true|false|-?\\d+)(:[^\n]*)?", Pattern.DOTALL);
    private static final Pattern NAMED = Pattern.compile("int (\\w+) = .*;", Pattern.DOTALL);

    public static void main(String[] args) throws IOException, ReflectiveOperationException {
        String readme = Files.readString(README);
        StringBuilder body = new StringBuilder();
        int calls = 0;
        Matcher block = BLOCK.matcher(readme);
        while (block.find()) {
            calls += translate(block.group(1), body);
        }
        c.same("README.md shows many calls", 1, calls >= 30 ? 1 : 0);
        Map<String, long[]> answers = run(body.toString());
        c.same("calls that were run", calls, answers.size());
        for (Map.Entry<String, long[]> answer : answers.entrySet()) {
            c.same(answer.getKey(), answer.getValue()[0], answer.getValue()[1]);
        }
        everyCallIsShown(readme);
        c.end();
    }

    /** A statement goes on till a line that ends it; how many have an answer. */
    private static int translate(String block, StringBuilder body) {
        int calls = 0;
        String statement = "";
        for (String line : block.split("\n")) {
            statement += line + "\n";
            String text = statement.trim();
            Matcher answered = ANSWERED.matcher(text);
            if (answered.matches()) {
                body.append(told(answered.group(1), answered.group(2)));
                calls++;
                statement = "";
            } else if (text.endsWith(";")) {
                body.append(text).append('\n');
                statement = "";
            }
        }
        c.same("a statement without an end in README.md", 0, statement.trim().length());
        return calls;
    }

    private static String told(String code, String answer) {
        Matcher named = NAMED.matcher(code);
        String ahead = named.matches() ? code + "\n" : "";
        String got = named.matches() ? named.group(1) : code.substring(0, code.length() - 1);
        String name = code.replace("\\", "\\\\").replace("\"", "\\\"").replace("\n", " ");
        return ahead + "due(\"" + name + "\", " + answer + ", " + got + ");\n";
    }

    @SuppressWarnings("unchecked")
    private static Map<String, long[]> run(String body) throws IOException, ReflectiveOperationException {
        String text = "import java.util.Map; import java.util.TreeMap;\n"
                + "public final class ReadmeRun {\n"
                + "static final Map<String, long[]> all = new TreeMap<>();\n"
                + "static void due(String call, long want, long got) {"
                + " all.put(String.format(\"%03d \", all.size()) + call, new long[] {want, got}); }\n"
                + "static void due(String call, boolean want, boolean got) {"
                + " due(call, want ? 1L : 0L, got ? 1L : 0L); }\n"
                + "public static Map<String, long[]> run() {\n" + body + "return all;\n}\n}\n";
        Files.createDirectories(OUT);
        Path file = OUT.resolve("ReadmeRun.java");
        Files.writeString(file, text);
        JavaCompiler compiler = ToolProvider.getSystemJavaCompiler();
        if (compiler == null) {
            c.same("a compiler is there", 1, 0);
            return new TreeMap<>();
        }
        String path = System.getProperty("java.class.path");
        int code = compiler.run(null, null, null, "-cp", path, "-d", OUT.toString(), file.toString());
        c.same("README.md's calls compile", 0, code);
        if (code != 0) {
            return new TreeMap<>();
        }
        try (URLClassLoader loader = new URLClassLoader(new URL[] {OUT.toUri().toURL()})) {
            return (Map<String, long[]>) loader.loadClass("ReadmeRun").getMethod("run").invoke(null);
        }
    }

    /** Each call of the face stands in an example. */
    private static void everyCallIsShown(String readme) {
        for (java.lang.reflect.Method call : LightsMarket.class.getDeclaredMethods()) {
            if (java.lang.reflect.Modifier.isPublic(call.getModifiers())) {
                boolean shown = readme.contains("m." + call.getName() + "(");
                c.same(call.getName() + " is shown in README.md", 1, shown ? 1 : 0);
            }
        }
    }
}
