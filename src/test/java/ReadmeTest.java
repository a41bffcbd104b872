import java.io.ByteArrayOutputStream;
import java.io.PrintStream;
import java.lang.reflect.Method;
import java.lang.reflect.Modifier;
import java.net.URL;
import java.net.URLClassLoader;
import java.nio.charset.StandardCharsets;
import java.nio.file.Files;
import java.nio.file.Path;
import java.util.ArrayList;
import java.util.List;
import java.util.regex.Matcher;
import java.util.regex.Pattern;
import javax.tools.ToolProvider;

/** README.md names each call as it is, and its example compiles and prints what it tells. */
public final class ReadmeTest {
    private static int wrong;

    private static void need(boolean holds, String what) {
        if (!holds) {
            wrong++;
            System.out.println("not so: " + what);
        }
    }

    private static String block(String readme) {
        Matcher found = Pattern.compile("(?s)```java\n(.*?)```").matcher(readme);
        return found.find() ? found.group(1) : "";
    }

    /** A call in the table stands with as many arguments as the class asks for. */
    private static void names(String readme) {
        for (Method m : HullTank.class.getDeclaredMethods()) {
            if (!Modifier.isPublic(m.getModifiers())) continue;
            Matcher call = Pattern.compile("`" + m.getName() + "\\(([^)]*)\\)`").matcher(readme);
            boolean named = call.find();
            need(named, "the table names " + m.getName());
            if (named) {
                int told = call.group(1).isEmpty() ? 0 : call.group(1).split(",").length;
                need(told == m.getParameterCount(), m.getName() + " has " + m.getParameterCount() + " arguments");
            }
        }
    }

    private static String printed(String source) throws Exception {
        Path folder = Files.createTempDirectory("readme");
        Path file = folder.resolve("Example.java");
        Path compiled = folder.resolve("Example.class");
        PrintStream before = System.out;
        try {
            Files.writeString(file, source);
            String path = System.getProperty("java.class.path");
            int refused = ToolProvider.getSystemJavaCompiler().run(null, null, null, "-Xlint:all", "-Werror", "-cp", path,
                "-d", folder.toString(), file.toString());
            need(refused == 0, "the example compiles");
            if (refused != 0) return "";
            ByteArrayOutputStream bytes = new ByteArrayOutputStream();
            System.setOut(new PrintStream(bytes, true, StandardCharsets.UTF_8));
            try (URLClassLoader loader = new URLClassLoader(new URL[] {folder.toUri().toURL()})) {
                loader.loadClass("Example").getMethod("main", String[].class).invoke(null, (Object) new String[0]);
            }
            return bytes.toString(StandardCharsets.UTF_8);
        } finally {
            System.setOut(before);
            Files.deleteIfExists(compiled);
            Files.deleteIfExists(file);
            Files.deleteIfExists(folder);
        }
    }

    private static void example(String source) throws Exception {
        List<String> told = new ArrayList<>();
        List<String> lines = new ArrayList<>();
        for (String line : source.split("\n")) {
            Matcher m = Pattern.compile("show\\(.*// = (-?[0-9]+)").matcher(line);
            if (m.find()) {
                told.add(m.group(1));
                lines.add(line.trim());
            }
        }
        String[] got = printed(source).split("\\R");
        need(told.size() > 20, "the example tells what it prints");
        need(got.length == told.size(), "it prints " + told.size() + " lines");
        for (int i = 0; i < told.size() && i < got.length; i++) need(got[i].equals(told.get(i)), lines.get(i) + "  printed " + got[i]);
    }

    public static void main(String[] args) throws Exception {
        String readme = Files.readString(Path.of("README.md"), StandardCharsets.UTF_8);
        names(readme);
        example(block(readme));
        System.out.println(wrong == 0 ? "README.md is as it tells" : wrong + " not as told");
        if (wrong > 0) System.exit(1);
    }
}
