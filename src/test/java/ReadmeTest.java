import java.io.IOException;
import java.lang.reflect.InvocationTargetException;
import java.lang.reflect.Method;
import java.lang.reflect.Modifier;
import java.net.URL;
import java.net.URLClassLoader;
import java.nio.charset.StandardCharsets;
import java.nio.file.Files;
import java.nio.file.Path;
import java.util.ArrayList;
import java.util.Comparator;
import java.util.List;
import java.util.Set;
import java.util.TreeSet;
import java.util.regex.Matcher;
import java.util.regex.Pattern;
import java.util.stream.Stream;
import javax.tools.JavaCompiler;
import javax.tools.ToolProvider;

/**
 * README.md's Java is compiled and run as it stands there: each call is to answer what the comment behind it begins
 * with, a number or a text in quotes.
 */
public final class ReadmeTest {
    private static final Check CHECK = new Check();
    private static final Pattern BLOCK = Pattern.compile("(?ms)^```java\n(.*?)^```$");
    private static final Pattern ANSWERED = Pattern.compile("((?:\\w+\\.)?\\w+\\(.*\\)); *// (-?\\d+|\".*\")(:.*)?");

    private final StringBuilder members = new StringBuilder();
    private final StringBuilder body = new StringBuilder();
    private final List<String> calls = new ArrayList<>();
    private final List<String> due = new ArrayList<>();

    private void take(String readme) {
        Matcher block = BLOCK.matcher(readme);
        while (block.find()) {
            if (block.group(1).startsWith("static ")) {
                members.append(block.group(1));
            } else {
                takeLines(block.group(1).split("\n"));
            }
        }
    }

    private void takeLines(String[] lines) {
        for (String line : lines) {
            Matcher answered = ANSWERED.matcher(line);
            if (answered.matches()) {
                calls.add(answered.group(1));
                due.add(answered.group(2));
                body.append("got.add(").append(answered.group(1)).append(");\n");
            } else {
                body.append(line).append('\n');
                if (line.matches("\\w[\\w.]*\\(.*")) {
                    CHECK.wrong("README.md shows a call without an answer: " + line);
                }
            }
        }
    }

    private String source() {
        return "public final class ReadmeUse {\n" + members
            + "public static void use(java.util.List<Object> got) {\n" + body + "}\n}\n";
    }

    private static List<Object> run(String source) throws IOException, ReflectiveOperationException {
        List<Object> got = new ArrayList<>();
        JavaCompiler compiler = ToolProvider.getSystemJavaCompiler();
        if (compiler == null) {
            CHECK.wrong("this java has no compiler");
            return got;
        }
        Path folder = Files.createTempDirectory("readme");
        try {
            Path file = Files.writeString(folder.resolve("ReadmeUse.java"), source, StandardCharsets.UTF_8);
            String classes = System.getProperty("java.class.path");
            int code = compiler.run(null, null, null, "-cp", classes, "-d", folder.toString(), file.toString());
            CHECK.due("javac of README.md's Java", code, 0);
            if (code == 0) {
                invoke(folder, got);
            }
        } finally {
            remove(folder);
        }
        return got;
    }

    private static void invoke(Path folder, List<Object> got) throws IOException, ReflectiveOperationException {
        try (URLClassLoader loader = new URLClassLoader(new URL[] {folder.toUri().toURL()})) {
            loader.loadClass("ReadmeUse").getMethod("use", List.class).invoke(null, got);
        } catch (InvocationTargetException thrown) {
            CHECK.wrong("README.md's Java throws " + thrown.getCause());
        }
    }

    private static void remove(Path folder) throws IOException {
        try (Stream<Path> all = Files.walk(folder)) {
            for (Path path : all.sorted(Comparator.reverseOrder()).toList()) {
                Files.delete(path);
            }
        }
    }

    private void compare(List<Object> got) {
        CHECK.due("answers of README.md's calls", got.size(), calls.size());
        for (int i = 0; i < Math.min(got.size(), calls.size()); i++) {
            Object answer = got.get(i);
            CHECK.due(calls.get(i), answer instanceof String ? "\"" + answer + "\"" : answer.toString(), due.get(i));
        }
    }

    /** Whoever reads README.md finds each call of the class there with an answer. */
    private void showsEveryCall() {
        Set<String> shown = new TreeSet<>();
        for (String call : calls) {
            shown.add(call.substring(call.indexOf('.') + 1, call.indexOf('(')));
        }
        for (Method m : AsOfPages.class.getDeclaredMethods()) {
            if (Modifier.isPublic(m.getModifiers()) && !shown.contains(m.getName())) {
                CHECK.wrong("README.md does not show " + m.getName());
            }
        }
    }

    private static void namesEveryTest(String readme, Path tests) throws IOException {
        Set<String> named = new TreeSet<>();
        Matcher name = Pattern.compile("`(\\w+Test)`").matcher(readme);
        while (name.find()) {
            named.add(name.group(1));
        }
        Set<String> there = new TreeSet<>();
        try (Stream<Path> files = Files.list(tests)) {
            for (Path file : files.toList()) {
                String base = file.getFileName().toString();
                if (base.endsWith("Test.java")) {
                    there.add(base.substring(0, base.length() - ".java".length()));
                }
            }
        }
        CHECK.due("the tests that README.md names", named.toString(), there.toString());
    }

    public static void main(String[] args) throws IOException, ReflectiveOperationException {
        Path root = Path.of(args[0]).toAbsolutePath().getParent().resolve("../../..").normalize();
        String readme = Files.readString(root.resolve("README.md"), StandardCharsets.UTF_8);
        ReadmeTest test = new ReadmeTest();
        test.take(readme);
        test.compare(run(test.source()));
        test.showsEveryCall();
        namesEveryTest(readme, root.resolve("src/test/java"));
        CHECK.finish();
    }
}
