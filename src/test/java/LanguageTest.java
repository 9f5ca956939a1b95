import java.lang.reflect.Field;
import java.lang.reflect.Method;
import java.lang.reflect.Modifier;
import java.nio.file.Files;
import java.nio.file.Path;
import java.util.Set;
import java.util.TreeSet;
import java.util.regex.Matcher;
import java.util.regex.Pattern;

/** What of ../shared/LANGUAGE.md can be seen without reading: the face, words that are ruled out, sizes. */
public final class LanguageTest {
    private static int wrong = 0;

    public static void main(String[] args) throws Exception {
        String source = Files.readString(Path.of("src/main/java/EveryChild.java"));
        String document = Files.readString(Path.of("../shared/DOC.md"));
        String bare = source.replaceAll("(?s)/\\*.*?\\*/", " ").replaceAll("//[^\n]*", " ").replaceAll("'(\\\\.|[^'\\\\])'", "0");
        face(document);
        words(bare);
        sizes(bare);
        classes();
        System.out.println("language: " + wrong + " wrong");
        if (wrong != 0) System.exit(1);
    }

    private static void must(boolean is, String what) {
        if (!is) {
            wrong++;
            System.out.println(what);
        }
    }

    /** Rule 1. */
    private static void face(String document) {
        String face = document.substring(document.indexOf("```java"), document.indexOf("## Terms"));
        Set<String> wanted = new TreeSet<>();
        Matcher line = Pattern.compile("public (int|boolean) (\\w+)\\(([^)]*)\\);").matcher(face);
        while (line.find()) {
            String types = line.group(3).replaceAll("(int|boolean) \\w+", "$1");
            wanted.add(line.group(1) + " " + line.group(2) + "(" + types + ")");
        }
        Set<String> names = new TreeSet<>();
        Set<String> found = new TreeSet<>();
        for (Method m : EveryChild.class.getDeclaredMethods()) {
            if (!Modifier.isPublic(m.getModifiers())) continue;
            StringBuilder types = new StringBuilder();
            for (Class<?> type : m.getParameterTypes()) types.append(types.length() > 0 ? ", " : "").append(type.getName());
            found.add(m.getReturnType().getName() + " " + m.getName() + "(" + types + ")");
            names.add(m.getName());
        }
        must(wanted.size() == 50 && found.equals(wanted), "the face is not the document's: " + found);
        must(Modifier.isFinal(EveryChild.class.getModifiers()), "the class is not final");
        must(EveryChild.class.getConstructors().length == 1, "constructors");
        for (Class<?> type : EveryChild.class.getDeclaredClasses())
            for (Method m : type.getDeclaredMethods()) must(!names.contains(m.getName()), "rule 1: a name of the face: " + m);
        for (Method m : EveryChild.class.getDeclaredMethods())
            if (!Modifier.isPublic(m.getModifiers()))
                must(Modifier.isPrivate(m.getModifiers()) && !names.contains(m.getName()), "rule 1: " + m);
    }

    /** Rules 2, 4, 6, 10 and 13. */
    private static void words(String bare) {
        String[] out = {"throw", "throws", "try", "catch", "finally", "synchronized", "assert", "native", "volatile", "package",
            "equals", "hashCode", "toString", "Object", "System\\.out", "System\\.\\w*[tT]ime", "Random", "Thread", "Exact",
            "Float", "Double", "stream", "lambda"};
        for (String word : out) must(!Pattern.compile("\\b" + word + "\\b").matcher(bare).find(), "ruled out: " + word);
        must(!bare.contains("->"), "ruled out: ->");
        must(!bare.contains("::"), "ruled out: ::");
        must(!Pattern.compile("static\\s*\\{").matcher(bare).find(), "a static block");
        must(!bare.contains("\""), "a text");
        Matcher imports = Pattern.compile("import ([\\w.]+);").matcher(bare);
        while (imports.find()) must(imports.group(1).equals("java.util.Arrays"), "import " + imports.group(1));
        Matcher calls = Pattern.compile("\\b(Arrays|Math|Integer|Long|System)\\.(\\w+)").matcher(bare);
        Set<String> fine = Set.of("Arrays.fill", "Arrays.copyOf", "Math.min", "Math.max", "Integer.bitCount");
        while (calls.find()) must(fine.contains(calls.group()), "library: " + calls.group());
        must(!Pattern.compile("\\bwhile\\s*\\(\\s*true|for\\s*\\([^;]*;\\s*;").matcher(bare).find(), "rule 9: a loop without an end");
        for (int i = 0; i < bare.length(); i++) must(bare.charAt(i) < 128, "a sign above 127");
    }

    /** Rule 11: lines and parameters of methods. */
    private static void sizes(String bare) {
        String[] lines = bare.split("\n");
        Pattern head = Pattern.compile("^( {4}| {8})(?=\\S)(?!return|new|else)[\\w<>\\[\\] ]*?(\\w+)\\(([^)]*)\\) \\{$");
        for (int i = 0; i < lines.length; i++) {
            Matcher m = head.matcher(lines[i]);
            if (!m.matches() || Set.of("if", "for", "while", "switch").contains(m.group(2))) continue;
            int end = i;
            while (end < lines.length && !lines[end].equals(m.group(1) + "}")) end++;
            must(end - i < 60, "rule 11: " + m.group(2) + " has " + (end - i) + " lines");
            boolean open = lines[i].contains("public");
            must(open || m.group(3).split(",").length <= 7, "rule 11: parameters of " + m.group(2));
        }
    }

    /** Rules 2, 3, 5 and 11. */
    private static void classes() {
        Class<?>[] inside = EveryChild.class.getDeclaredClasses();
        must(inside.length + 1 <= 12, "rule 11: " + inside.length + " classes inside");
        fields(EveryChild.class);
        for (Class<?> type : inside) {
            must(Modifier.isStatic(type.getModifiers()) && !Modifier.isPublic(type.getModifiers()), "rule 2: " + type);
            fields(type);
        }
    }

    private static void fields(Class<?> type) {
        int own = 0;
        for (Field f : type.getDeclaredFields()) {
            boolean fixed = Modifier.isStatic(f.getModifiers());
            must(!fixed || Modifier.isFinal(f.getModifiers()), "rule 5: " + f);
            if (!fixed) own++;
        }
        must(own <= 20, "rule 11: " + type + " has " + own + " fields");
    }
}
