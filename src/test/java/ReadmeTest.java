import java.io.IOException;
import java.lang.reflect.InvocationTargetException;
import java.lang.reflect.Method;
import java.lang.reflect.Modifier;
import java.net.URL;
import java.net.URLClassLoader;
import java.nio.charset.StandardCharsets;
import java.nio.file.Files;
import java.nio.file.Path;
import java.util.ArrayList;
import java.util.List;
import java.util.Set;
import java.util.TreeSet;
import java.util.regex.Matcher;
import java.util.regex.Pattern;
import javax.tools.ToolProvider;

/** What README.md tells of the class: its examples are compiled and run, and its table names each call once. */
public final class ReadmeTest {
    private static final Pattern BLOCK = Pattern.compile("(?s)```java\n(.*?)```");
    private static final Pattern ANSWERED = Pattern.compile("(meter\\.\\w+\\(.*\\)); +// (throws \\w+|-?\\w+)(: .*)?");
    private static final Pattern CALL = Pattern.compile("`(\\w+)`");
    private static final int LEAST_ROWS = 20;

    private static int examples = 0;
    private static int rows = 0;
    private static int wrong = 0;

    public static void main(String[] args) throws Exception {
        String readme = Files.readString(Path.of(System.getProperty("project", "."), "README.md"), StandardCharsets.UTF_8);
        table(readme);
        run(written(readme));
        must(examples >= LEAST_ROWS, "the examples have " + examples + " rows alone");
        System.out.println(rows + " things of README.md looked at, " + wrong + " are wrong");
        if (wrong != 0) {
            System.exit(1);
        }
    }

    private static void must(boolean is, String what) {
        rows++;
        if (!is) {
            wrong++;
            System.out.println(what);
        }
    }

    private static void table(String readme) {
        Set<String> face = new TreeSet<>();
        for (Method method : StairMeter.class.getDeclaredMethods()) {
            if (Modifier.isPublic(method.getModifiers())) {
                face.add(method.getName());
            }
        }
        List<String> told = new ArrayList<>();
        for (String line : readme.split("\n")) {
            // What a row is for may name a call, too: it is not told of there.
            String row = line.startsWith("| ") ? line.substring(line.indexOf('|', 1)) : "";
            Matcher call = CALL.matcher(row);
            while (call.find()) {
                must(!told.contains(call.group(1)), "the table tells twice of " + call.group(1));
                told.add(call.group(1));
            }
        }
        must(new TreeSet<>(told).equals(face), "the table tells of " + new TreeSet<>(told) + ", the face has " + face);
    }

    /** The examples as a class: a block that begins with static is a part of it, each other one a method. */
    private static String written(String readme) {
        StringBuilder parts = new StringBuilder();
        StringBuilder calls = new StringBuilder();
        Matcher block = BLOCK.matcher(readme);
        for (int i = 0; block.find(); i++) {
            if (block.group(1).startsWith("static")) {
                parts.append(block.group(1));
                continue;
            }
            calls.append("example").append(i).append("();\n");
            parts.append("static void example").append(i).append("() {\n");
            for (String line : block.group(1).split("\n")) {
                parts.append(checked(line)).append("\n");
            }
            parts.append("}\n");
        }
        return "public final class Examples {\npublic static void main(String[] args) {\n" + calls + "}\n"
            + "interface Row { Object call(); }\n"
            + "static void due(String told, String want, Row row) {\n String got;\n"
            + " try { got = String.valueOf(row.call()); } catch (RuntimeException e) { got = \"throws \" + e.getClass().getSimpleName(); }\n"
            + " ReadmeTest.held(told, got, want);\n}\n" + parts + "}\n";
    }

    private static String checked(String line) {
        Matcher row = ANSWERED.matcher(line);
        if (!row.matches()) {
            must(!line.contains("//"), "a row that cannot be held: " + line);
            return line;
        }
        return "due(\"" + row.group(1) + "\", \"" + row.group(2) + "\", () -> " + row.group(1) + ");";
    }

    /** Called by the examples. */
    public static void held(String told, String got, String want) {
        examples++;
        must(got.equals(want), "README.md tells that " + told + " answers " + want + ": it answered " + got);
    }

    private static void run(String source) throws IOException, ReflectiveOperationException {
        Path folder = Files.createTempDirectory("readme");
        Path file = folder.resolve("Examples.java");
        Files.writeString(file, source);
        int failed = ToolProvider.getSystemJavaCompiler().run(null, null, null, "-cp", System.getProperty("java.class.path"),
            "-d", folder.toString(), file.toString());
        must(failed == 0, "the examples do not compile");
        if (failed == 0) {
            try (URLClassLoader loader = new URLClassLoader(new URL[] {folder.toUri().toURL()}, ReadmeTest.class.getClassLoader())) {
                loader.loadClass("Examples").getMethod("main", String[].class).invoke(null, (Object) new String[0]);
            } catch (InvocationTargetException e) {
                must(false, "the examples throw " + e.getCause());
            }
        }
        for (Path left : Files.list(folder).toList()) {
            Files.delete(left);
        }
        Files.delete(folder);
    }
}
