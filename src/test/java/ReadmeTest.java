import java.lang.reflect.Method;
import java.lang.reflect.Modifier;
import java.net.URL;
import java.net.URLClassLoader;
import java.nio.file.Files;
import java.nio.file.Path;
import java.util.ArrayList;
import java.util.List;
import java.util.regex.Matcher;
import java.util.regex.Pattern;
import java.util.stream.Stream;
import javax.tools.ToolProvider;

/** What README.md shows: its blocks of Java are run, and each answer that stands behind // must be the class's. */
public final class ReadmeTest {
    private static final Pattern BLOCK = Pattern.compile("```java\n(.*?)```", Pattern.DOTALL);
    private static final Pattern ANSWERED = Pattern.compile("(\\S.*); +// (-?\\d+|true|false|NONE)(: .*| ?\\.\\..*)?");

    public static void main(String[] args) throws Exception {
        String page = Files.readString(Path.of("README.md"));
        checkNames(page);
        runBlocks(page);
        Kit.end();
    }

    private static void checkNames(String page) throws Exception {
        try (Stream<Path> tests = Files.list(Path.of("src/test/java"))) {
            for (Path test : tests.toList()) {
                String name = test.getFileName().toString().replace(".java", "");
                Kit.due("README.md tells of " + name, page.contains("`" + name + "`"), true);
            }
        }
        for (Method call : FogKeys.class.getDeclaredMethods()) {
            boolean isTold = !Modifier.isPublic(call.getModifiers()) || page.contains("`" + call.getName() + "`");
            Kit.due("README.md tells of " + call.getName(), isTold, true);
        }
        for (int status = 0; status <= 11; status++) {
            Kit.due("README.md tells STATUS " + status, page.contains("\n| " + status + " | "), true);
        }
    }

    private static void runBlocks(String page) throws Exception {
        StringBuilder members = new StringBuilder();
        StringBuilder lines = new StringBuilder();
        int answers = 0;
        Matcher block = BLOCK.matcher(page);
        while (block.find()) {
            if (block.group(1).startsWith("static ")) {
                members.append(block.group(1));
                continue;
            }
            for (String line : block.group(1).split("\n")) {
                boolean isTold = line.contains("//");
                lines.append(isTold ? asked(line) : line).append('\n');
                answers += isTold ? 1 : 0;
            }
        }
        Kit.due("README.md shows answers: " + answers, answers >= 40, true);
        run("public final class ReadmeBlocks {\n" + members + "public static void run() {\n" + lines + "}\n}\n");
    }

    private static String asked(String line) {
        Matcher m = ANSWERED.matcher(line);
        if (!m.matches()) {
            throw new IllegalStateException("README.md shows no answer in: " + line);
        }
        String value = m.group(2).equals("NONE") ? "FogKeys.NONE" : m.group(2);
        String told = m.group(1).replace("\\", "\\\\").replace("\"", "\\\"");
        return "ReadmeTest.shown(\"README.md: " + told + "\", " + m.group(1) + ", " + value + ");";
    }

    /** What the blocks call: loaded apart from Kit, they can't reach it themselves. */
    public static void shown(String what, long got, long want) {
        Kit.due(what, got, want);
    }

    public static void shown(String what, boolean got, boolean want) {
        Kit.due(what, got, want);
    }

    private static void run(String source) throws Exception {
        Path folder = Files.createDirectories(Path.of("build/readme"));
        Path file = Files.writeString(folder.resolve("ReadmeBlocks.java"), source);
        List<String> options = new ArrayList<>(List.of("-d", folder.toString(), "-cp", System.getProperty("java.class.path")));
        options.add(file.toString());
        int code = ToolProvider.getSystemJavaCompiler().run(null, null, null, options.toArray(new String[0]));
        Kit.due("README.md's blocks compile", code, 0);
        if (code == 0) {
            try (URLClassLoader loader = new URLClassLoader(new URL[] {folder.toUri().toURL()}, ReadmeTest.class.getClassLoader())) {
                loader.loadClass("ReadmeBlocks").getMethod("run").invoke(null);
            }
        }
    }
}
