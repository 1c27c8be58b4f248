import java.io.IOException;
import java.lang.reflect.Method;
import java.net.URL;
import java.net.URLClassLoader;
import java.nio.file.Files;
import java.nio.file.Path;
import java.util.ArrayList;
import java.util.List;
import java.util.regex.Matcher;
import java.util.regex.Pattern;
import java.util.stream.Stream;
import javax.tools.ToolProvider;

/** What README.md shows is compiled and run as one run, and each call answers what the page says. */
public final class ReadmeTest {
    private static final Pattern BLOCK = Pattern.compile("(?s)```java\n(.*?)```");
    /** A call at the left edge, and the answer that stands behind it. */
    private static final Pattern ANSWERED =
        Pattern.compile("x\\.(\\w+)(\\(.*\\)); +// (-?\\d+|UNKNOWN|OUTSIDE|STATE|FULL|NONE|LOST): .*");
    private static final Pattern CALL = Pattern.compile("x\\..*");

    public static void main(String[] args) throws Exception {
        List<String> calls = new ArrayList<>();
        List<String> dues = new ArrayList<>();
        String source = sourceOf(Files.readString(Path.of("README.md")), calls, dues);
        everyCallIsShown(calls);
        long[][] seen = run(source);
        Checks.due("as many answers", seen.length, calls.size());
        for (int i = 0; i < Math.min(seen.length, calls.size()); i++) {
            Checks.due("README.md: " + calls.get(i) + " // " + dues.get(i), seen[i][0], seen[i][1]);
        }
        Checks.end();
    }

    /** A class whose method gives, for each call that has one, what it answers and what is due. */
    private static String sourceOf(String page, List<String> calls, List<String> dues) {
        StringBuilder source = new StringBuilder("public final class Shown { public static long[][] seen() {\n");
        source.append("java.util.List<long[]> all = new java.util.ArrayList<>();\n");
        Matcher block = BLOCK.matcher(page);
        while (block.find()) {
            for (String line : block.group(1).split("\n")) {
                Matcher answered = ANSWERED.matcher(line);
                if (answered.matches()) {
                    calls.add("x." + answered.group(1) + answered.group(2));
                    dues.add(answered.group(3));
                    source.append("all.add(new long[] {").append(calls.get(calls.size() - 1)).append(", ")
                        .append(constant(answered.group(3))).append("});\n");
                } else {
                    Checks.due("an answer stands behind " + line, CALL.matcher(line).matches() ? 0 : 1, 1);
                    source.append(line).append('\n');
                }
            }
        }
        return source.append("return all.toArray(new long[0][]); } }\n").toString();
    }

    private static String constant(String due) {
        return Character.isLetter(due.charAt(0)) ? "ThunderOwned." + due : due;
    }

    private static void everyCallIsShown(List<String> calls) {
        for (Method method : ThunderOwned.class.getMethods()) {
            if (method.getDeclaringClass() == ThunderOwned.class) {
                String start = "x." + method.getName() + "(";
                boolean shown = calls.stream().anyMatch(call -> call.startsWith(start));
                Checks.due("README.md shows " + method.getName(), shown ? 1 : 0, 1);
            }
        }
    }

    private static long[][] run(String source) throws Exception {
        Path room = Files.createTempDirectory("readme");
        try {
            Path file = room.resolve("Shown.java");
            Files.writeString(file, source);
            int failed = ToolProvider.getSystemJavaCompiler().run(null, null, null, "-d", room.toString(),
                "-cp", System.getProperty("java.class.path"), file.toString());
            Checks.due("what README.md shows compiles", failed, 0);
            if (failed != 0) {
                return new long[0][];
            }
            try (URLClassLoader loader = new URLClassLoader(new URL[] {room.toUri().toURL()})) {
                return (long[][]) loader.loadClass("Shown").getMethod("seen").invoke(null);
            }
        } finally {
            remove(room);
        }
    }

    private static void remove(Path room) throws IOException {
        try (Stream<Path> files = Files.list(room)) {
            for (Path file : files.toList()) {
                Files.delete(file);
            }
        }
        Files.delete(room);
    }
}
