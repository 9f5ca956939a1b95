import java.lang.reflect.Method;
import java.lang.reflect.Modifier;
import java.net.URL;
import java.net.URLClassLoader;
import java.nio.file.Files;
import java.nio.file.Path;
import java.util.regex.Matcher;
import java.util.regex.Pattern;
import javax.tools.ToolProvider;

/** That README.md's example compiles and answers what stands behind it, and that it names every call and every test. */
public final class ReadmeTest {
    private static final Pattern ANSWER = Pattern.compile("(?:int (\\w+) = )?(.+);\\s+// answers (\\S+)");
    private static int wrong = 0;
    private static int checks = 0;

    public static void main(String[] args) throws Exception {
        String readme = Files.readString(Path.of("README.md"));
        int begin = readme.indexOf("```java\n") + "```java\n".length();
        run(readme.substring(begin, readme.indexOf("```", begin)));
        for (Method m : EveryChild.class.getDeclaredMethods())
            if (Modifier.isPublic(m.getModifiers())) named(readme, m.getName());
        for (Class<?> type : EveryChild.class.getDeclaredClasses()) named(readme, type.getSimpleName());
        try (var tests = Files.newDirectoryStream(Path.of("src/test/java"), "*Test.java")) {
            for (Path test : tests) named(readme, test.getFileName().toString().replace(".java", ""));
        }
        System.out.println("readme: " + checks + " checks, " + wrong + " wrong");
        if (wrong != 0 || checks < 60) System.exit(1);
    }

    /** Called by the example for each answer that it shows. */
    public static void due(String want, String got, String call) {
        checks++;
        if (want.equals(got)) return;
        wrong++;
        System.out.println("README.md: " + call + " answers " + got + ", not " + want);
    }

    private static void named(String readme, String name) {
        checks++;
        if (readme.contains("`" + name + "`")) return;
        wrong++;
        System.out.println("README.md does not name " + name);
    }

    private static void run(String example) throws Exception {
        Path room = Files.createTempDirectory("readme");
        Path source = room.resolve("ReadmeExample.java");
        Files.writeString(source, "public class ReadmeExample { public static void run() {\n" + checked(example) + "} }\n");
        int ended = ToolProvider.getSystemJavaCompiler().run(null, null, null, "-cp", System.getProperty("java.class.path"),
            "-d", room.toString(), source.toString());
        due("0", "" + ended, "compiling the example");
        if (ended == 0) {
            try (URLClassLoader loader = new URLClassLoader(new URL[] {room.toUri().toURL()})) {
                loader.loadClass("ReadmeExample").getMethod("run").invoke(null);
            }
        }
        try (var files = Files.newDirectoryStream(room)) {
            for (Path file : files) Files.delete(file);
        }
        Files.delete(room);
    }

    private static String checked(String example) {
        StringBuilder out = new StringBuilder();
        for (String line : example.split("\n")) {
            Matcher m = ANSWER.matcher(line);
            if (!m.matches()) {
                out.append(line).append('\n');
                continue;
            }
            String asked = m.group(2);
            if (m.group(1) != null) {
                out.append("int ").append(m.group(1)).append(" = ").append(asked).append(";\n");
                asked = m.group(1);
            }
            out.append("ReadmeTest.due(\"").append(m.group(3)).append("\", \"\" + (").append(asked).append("), \"")
                .append(m.group(2)).append("\");\n");
        }
        return out.toString();
    }
}
