import java.io.IOException;
import java.lang.reflect.Constructor;
import java.lang.reflect.Field;
import java.lang.reflect.Method;
import java.lang.reflect.Modifier;
import java.nio.file.Files;
import java.nio.file.Path;
import java.util.Arrays;
import java.util.Set;
import java.util.TreeSet;
import java.util.regex.Matcher;
import java.util.regex.Pattern;

/** The rules of LANGUAGE.md that can be seen in the class and in its source, and the document's face. */
public final class LanguageTest {
    private static final String FACE = """
        int parish(int,int,int,int)
        int ofHouse(int,int)
        int ofStone(int,int)
        int sleep(int,int)
        int own(int)
        int lay(int)
        int night(int)
        int day(int,int,int,int,int)
        int behind(int,int)
        int quiet()
        int fewest(int,int)
        int claps(int,int)
        int rests(int,int)
        int reading(int,int)
        int back(int)
        int kinds(int)
        int wrongs(int)
        int steps()
        long odds(int,int)
        int sheet(int,int,int)
        int lose(int)
        int put(int,int,int)
        long cell(int,int,int)
        int copy(int,int,int,int,int)
        int tell(int)
        int knock(int)
        int as(int,int)
        int trace()
        int fault()
        int many(int)
        """;
    private static final String FORBIDDEN = "\\b(throw|throws|try|catch|synchronized|assert|import|package|new \\w+\\[\\]"
        + "|\\w+Exact|hashCode|toString|System\\.(?!arraycopy)\\w+|var|float|double)\\b|->|::|@";

    public static void main(String[] args) throws IOException {
        face();
        members(ThunderOwned.class);
        for (Class<?> inside : ThunderOwned.class.getDeclaredClasses()) {
            Checks.due(inside + " is static", Modifier.isStatic(inside.getModifiers()) ? 1 : 0, 1);
            Checks.due(inside + " is private", Modifier.isPrivate(inside.getModifiers()) ? 1 : 0, 1);
            members(inside);
        }
        Checks.due("some twelve classes", ThunderOwned.class.getDeclaredClasses().length <= 11 ? 1 : 0, 1);
        source(Files.readString(Path.of("src/main/java/ThunderOwned.java")));
        Checks.end();
    }

    private static void face() {
        Set<String> got = new TreeSet<>();
        for (Method method : ThunderOwned.class.getDeclaredMethods()) {
            if (!Modifier.isPrivate(method.getModifiers())) {
                String types = Arrays.toString(method.getParameterTypes()).replaceAll("[\\[\\] ]", "");
                got.add(method.getReturnType() + " " + method.getName() + "(" + types + ")");
                Checks.due(method + " is public alone", method.getModifiers(), Modifier.PUBLIC);
            }
        }
        Set<String> want = new TreeSet<>(Arrays.asList(FACE.split("\n")));
        Checks.due("face " + got, got.equals(want) ? 1 : 0, 1);
        Set<String> constants = new TreeSet<>();
        for (Field field : ThunderOwned.class.getDeclaredFields()) {
            if (!Modifier.isPrivate(field.getModifiers())) {
                constants.add(field.getName());
            }
        }
        Checks.due("constants " + constants,
            constants.equals(Set.of("UNKNOWN", "OUTSIDE", "STATE", "FULL", "NONE", "LOST")) ? 1 : 0, 1);
        Constructor<?>[] made = ThunderOwned.class.getDeclaredConstructors();
        Checks.due("one constructor", made.length, 1);
        Checks.due("it is public", made[0].getModifiers(), Modifier.PUBLIC);
        Checks.due("public and final", ThunderOwned.class.getModifiers(), Modifier.PUBLIC | Modifier.FINAL);
    }

    private static void members(Class<?> of) {
        int fields = 0;
        for (Field field : of.getDeclaredFields()) {
            int kind = field.getModifiers();
            Checks.due(field + " static means final", !Modifier.isStatic(kind) || Modifier.isFinal(kind) ? 1 : 0, 1);
            fields += Modifier.isStatic(kind) ? 0 : 1;
        }
        Checks.due("some twenty fields of " + of, fields <= 20 ? 1 : 0, 1);
        for (Method method : of.getDeclaredMethods()) {
            Checks.due(method + " takes seven at most", method.getParameterCount() <= 7 ? 1 : 0, 1);
            boolean isFace = of == ThunderOwned.class && Modifier.isPublic(method.getModifiers());
            boolean bearsFaceName = FACE.contains(" " + method.getName() + "(");
            Checks.due(method + " bears no name of the face", !isFace && bearsFaceName ? 1 : 0, 0);
        }
    }

    private static void source(String source) {
        String code = source.replaceAll("(?s)/\\*.*?\\*/", "").replaceAll("//[^\n]*", "");
        Matcher found = Pattern.compile(FORBIDDEN).matcher(code);
        while (found.find()) {
            Checks.due("the source has " + found.group(), 1, 0);
        }
        Checks.due("signs are plain", source.chars().allMatch(c -> c < 128) ? 1 : 0, 1);
        int start = 0;
        String[] lines = source.split("\n");
        for (int i = 0; i < lines.length; i++) {
            if (lines[i].matches("( {4}| {8})(public|private)[^;=]*\\{")) {
                start = i;
            }
            if (lines[i].matches("( {4}| {8})\\}") && !lines[start].contains(" class ")) {
                Checks.due("line " + (start + 1) + ": a short method", i - start <= 60 ? 1 : 0, 1);
            }
        }
    }
}
