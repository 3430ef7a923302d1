import java.io.IOException;
import java.lang.reflect.Method;
import java.net.URL;
import java.net.URLClassLoader;
import java.nio.file.Files;
import java.nio.file.Path;
import java.util.Arrays;
import java.util.List;
import java.util.Set;
import java.util.TreeSet;
import java.util.regex.Matcher;
import java.util.regex.Pattern;
import java.util.stream.Collectors;
import java.util.stream.Stream;
import javax.tools.ToolProvider;

/** That README.md names each call with its types, and that its example answers what stands behind each call. */
public final class ReadmeTest {
    private static final Pattern BLOCK = Pattern.compile("(?s)```java\n(.*?)```");
    private static final Pattern ROW = Pattern.compile("(?m)^\\| `(\\w+) (\\w+)\\(([^)]*)\\)` \\|");
    private static final Pattern ASKED =
        Pattern.compile("(?m)^(?:(\\w+) (\\w+) = )?((?:town|tell)\\b.*;) +// (-?\\d+|true|false)\\b.*$");

    public static void main(String[] args) throws Exception {
        String page = Files.readString(Path.of("README.md"));
        calls(page);
        example(page);
        Due.finish();
    }

    private static void calls(String page) {
        Set<String> named = new TreeSet<>();
        Matcher row = ROW.matcher(page);
        while (row.find()) {
            String types = Stream.of(row.group(3).split(", ")).map(p -> p.split(" ")[0]).collect(Collectors.joining(","));
            Due.yes("named once: " + row.group(2), named.add(row.group(1) + " " + row.group(2) + "(" + types + ")"));
        }
        Due.is("calls named", Asked.FACE.size(), named.size());
        for (Method m : Asked.FACE.values()) {
            String types = Arrays.stream(m.getParameterTypes()).map(Class::getName).collect(Collectors.joining(","));
            String call = m.getReturnType() + " " + m.getName() + "(" + types + ")";
            Due.yes("named: " + call, named.contains(call));
        }
    }

    /** The first block is what is called; the second is the method that it tells texts by. */
    private static void example(String page) throws Exception {
        Matcher block = BLOCK.matcher(page);
        String calls = block.find() ? block.group(1) : "";
        String helper = block.find() ? block.group(1) : "";
        Matcher asked = ASKED.matcher(calls);
        StringBuilder body = new StringBuilder();
        int answers = 0;
        while (asked.find()) {
            String what = "\"" + asked.group(3).replace("\"", "'") + "\"";
            String answer = "a" + answers;
            body.append("var ").append(answer).append(" = ").append(asked.group(3)).append('\n');
            if (asked.group(1) != null) {
                body.append(asked.group(1)).append(' ').append(asked.group(2)).append(" = ").append(answer).append(";\n");
            }
            body.append("seen.add(").append(what).append(");\nseen.add(\"").append(asked.group(4)).append("\");\n");
            body.append("seen.add(\"\" + ").append(answer).append(");\n");
            answers++;
        }
        Due.is("lines of the example that are asked", calls.split("\n").length - 1, answers);
        List<?> seen = run("public final class ReadmeExample {\n" + helper
            + "public static java.util.List<String> seen() {\n"
            + "java.util.List<String> seen = new java.util.ArrayList<>();\n"
            + "TreesLendRings town = new TreesLendRings();\n" + body + "return seen;\n}\n}\n");
        Due.is("what the example answers", 3 * answers, seen.size());
        for (int i = 0; i + 2 < seen.size(); i += 3) {
            Due.yes(seen.get(i) + " answers " + seen.get(i + 2) + ", the page says " + seen.get(i + 1) + ":",
                seen.get(i + 1).equals(seen.get(i + 2)));
        }
    }

    private static List<?> run(String source) throws Exception {
        Path room = Files.createTempDirectory("readme");
        try {
            Path file = Files.writeString(room.resolve("ReadmeExample.java"), source);
            String classes = System.getProperty("java.class.path");
            int failed = ToolProvider.getSystemJavaCompiler().run(null, null, null, "-nowarn", "-proc:none",
                "-cp", classes, "-d", room.toString(), file.toString());
            Due.is("the example's compiling", 0, failed);
            if (failed != 0) {
                return List.of();
            }
            try (URLClassLoader loader = new URLClassLoader(new URL[] {room.toUri().toURL()})) {
                return (List<?>) loader.loadClass("ReadmeExample").getMethod("seen").invoke(null);
            }
        } finally {
            remove(room);
        }
    }

    private static void remove(Path room) throws IOException {
        try (Stream<Path> files = Files.list(room)) {
            for (Path file : files.collect(Collectors.toList())) {
                Files.delete(file);
            }
        }
        Files.delete(room);
    }
}
