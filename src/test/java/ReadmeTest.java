import java.io.ByteArrayOutputStream;
import java.io.IOException;
import java.io.PrintStream;
import java.lang.reflect.Method;
import java.lang.reflect.Modifier;
import java.net.URL;
import java.net.URLClassLoader;
import java.nio.file.Files;
import java.nio.file.Path;
import java.util.ArrayList;
import java.util.List;
import java.util.regex.Matcher;
import java.util.regex.Pattern;
import javax.tools.JavaCompiler;
import javax.tools.ToolProvider;

/** The example in README.md is compiled and run, and must answer as its remarks say. Its argument is README.md. */
public final class ReadmeTest {

    private static String example(String readme) {
        Matcher block = Pattern.compile("(?s)```java\n(.*?)```").matcher(readme);
        return block.find() ? block.group(1) : "";
    }

    /** The number that each remark begins with. */
    private static List<String> due(String example) {
        List<String> due = new ArrayList<>();
        Matcher shown = Pattern.compile("show\\(m\\..*\\); +// (-?\\d+)\\b").matcher(example);
        while (shown.find()) {
            due.add(shown.group(1));
        }
        return due;
    }

    private static List<String> printed(Path folder) throws Exception {
        PrintStream before = System.out;
        ByteArrayOutputStream bytes = new ByteArrayOutputStream();
        try (URLClassLoader loader = new URLClassLoader(new URL[] {folder.toUri().toURL()})) {
            Method main = loader.loadClass("Example").getMethod("main", String[].class);
            System.setOut(new PrintStream(bytes, true));
            main.invoke(null, (Object) new String[0]);
        } finally {
            System.setOut(before);
        }
        return List.of(bytes.toString().trim().split("\\s+"));
    }

    private static boolean compiled(String example, Path folder) throws IOException {
        Path file = folder.resolve("Example.java");
        Files.writeString(file, example);
        JavaCompiler compiler = ToolProvider.getSystemJavaCompiler();
        return compiler != null && compiler.run(null, null, null, "-cp", System.getProperty("java.class.path"),
                "-d", folder.toString(), file.toString()) == 0;
    }

    private static void exampleAnswers(String example) throws Exception {
        Path folder = Files.createTempDirectory("readme");
        try {
            boolean isCompiled = compiled(example, folder);
            Due.due("the example can be compiled", isCompiled ? 1 : 0, 1);
            if (isCompiled) {
                Due.same("answers of the example", printed(folder).toString(), due(example).toString());
            }
        } finally {
            for (String name : new String[] {"Example.java", "Example.class"}) {
                Files.deleteIfExists(folder.resolve(name));
            }
            Files.delete(folder);
        }
    }

    private static void everyCallHasARemark(String example) {
        int calls = example.split("show\\(m\\.", -1).length - 1;
        Due.due("remarks of the example", due(example).size(), calls);
        Due.due("the example shows answers", calls > 0 ? 1 : 0, 1);
    }

    private static void everyMethodIsNamed(String readme) {
        Due.due("README.md names the constructor", readme.contains("| `EffectMachine()` | ") ? 1 : 0, 1);
        for (Method each : EffectMachine.class.getDeclaredMethods()) {
            if (Modifier.isPublic(each.getModifiers())) {
                String arguments = "\\w+(, \\w+){" + (each.getParameterCount() - 1) + "}";
                String row = "\\| `" + each.getName() + "\\(" + (each.getParameterCount() == 0 ? "" : arguments) + "\\)` \\| \\w.*";
                Due.due("README.md says what " + each.getName() + " is for",
                        Pattern.compile(row).matcher(readme).find() ? 1 : 0, 1);
            }
        }
    }

    public static void main(String[] args) throws Exception {
        String readme = Files.readString(Path.of(args.length > 0 ? args[0] : "README.md"));
        String example = example(readme);
        everyCallHasARemark(example);
        exampleAnswers(example);
        everyMethodIsNamed(readme);
        Due.finish("ReadmeTest");
    }
}
