import java.io.IOException;
import java.net.URL;
import java.net.URLClassLoader;
import java.nio.file.Files;
import java.nio.file.Path;
import java.util.ArrayList;
import java.util.List;
import java.util.regex.Matcher;
import java.util.regex.Pattern;
import javax.tools.ToolProvider;

/** The example of README.md: it is cut out, compiled and run, and each call must answer what is written behind it. */
public final class ReadmeTest {
    private static final Pattern BLOCK = Pattern.compile("```java\n(.*?)```", Pattern.DOTALL);
    // A call that stands as a line, or lines, of its own, and the answer behind it.
    private static final Pattern ASKED = Pattern.compile("(?m)^((?:tell|spots\\.).*?\\));\\s*// (-?\\d+|true|false|throws \\w+)",
        Pattern.DOTALL);
    private static final int LEAST_ASKED = 24;

    private static final Probe PROBE = new Probe("ReadmeTest");

    public static void main(String[] args) throws Exception {
        List<String> blocks = new ArrayList<>();
        Matcher block = BLOCK.matcher(Files.readString(Path.of("README.md")));
        while (block.find()) {
            blocks.add(block.group(1));
        }
        PROBE.due("blocks of Java in README.md", blocks.size(), 2);
        if (blocks.size() == 2) {
            run(blocks.get(0), blocks.get(1));
        }
        PROBE.end();
    }

    /** Called from the example that is made. */
    public static void due(String call, long got, long want) {
        PROBE.due(call, got, want);
    }

    /** Called from the example that is made. */
    public static void due(String call, boolean got, boolean want) {
        PROBE.due(call, got, want);
    }

    private static void run(String functions, String calls) throws Exception {
        Path folder = Files.createTempDirectory("readme");
        Path source = folder.resolve("ReadmeExample.java");
        Files.writeString(source, "public final class ReadmeExample {\n" + functions
            + "public static void play() {\n" + asking(calls) + "}\n}\n");
        String path = System.getProperty("java.class.path");
        int failed = ToolProvider.getSystemJavaCompiler().run(null, null, null, "-cp", path, "-d", folder.toString(),
            source.toString());
        PROBE.due("compiling the example", failed, 0);
        if (failed == 0) {
            try (URLClassLoader loader = new URLClassLoader(new URL[] {folder.toUri().toURL()})) {
                loader.loadClass("ReadmeExample").getMethod("play").invoke(null);
            }
        }
        remove(folder);
    }

    private static String asking(String calls) {
        Matcher asked = ASKED.matcher(calls);
        StringBuilder made = new StringBuilder();
        int count = 0;
        for (; asked.find(); count++) {
            asked.appendReplacement(made, Matcher.quoteReplacement(asks(asked.group(1), asked.group(2)) + " //"));
        }
        PROBE.due("enough calls with an answer", count >= LEAST_ASKED, true);
        return asked.appendTail(made).toString();
    }

    private static String asks(String call, String answer) {
        String told = "\"" + call.replaceAll("(?s)\n.*", " ..").replace("\"", "'") + "\", ";
        if (answer.startsWith("throws ")) {
            String name = "java.util." + answer.substring("throws ".length());
            return "try { " + call + "; ReadmeTest.due(" + told + "0, 1); } catch (" + name + " e) { ReadmeTest.due(" + told
                + "1, 1); }";
        }
        return "ReadmeTest.due(" + told + call + ", " + answer + ");";
    }

    private static void remove(Path folder) throws IOException {
        try (var files = Files.list(folder)) {
            for (Path file : files.toList()) {
                Files.delete(file);
            }
        }
        Files.delete(folder);
    }
}
