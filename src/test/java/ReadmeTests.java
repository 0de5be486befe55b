import java.io.IOException;
import java.lang.reflect.Field;
import java.lang.reflect.Method;
import java.lang.reflect.Modifier;
import java.net.URL;
import java.net.URLClassLoader;
import java.nio.charset.StandardCharsets;
import java.nio.file.Files;
import java.nio.file.Path;
import java.util.ArrayList;
import java.util.List;
import java.util.regex.Matcher;
import java.util.regex.Pattern;
import javax.tools.ToolProvider;

/** README.md's pieces of Java compile, and each call in them answers what stands behind it; it leaves out no call. */
public final class ReadmeTests {
    private static final Checks c = new Checks("ReadmeTests");
    private static final Pattern CALL = Pattern.compile("(\\w.*\\));\\s*// (-?\\w+): .*");
    private static final Pattern NEW = Pattern.compile("TradeWheel x = new TradeWheel\\(\\);");

    private final List<String> calls = new ArrayList<>();
    private final List<Long> wants = new ArrayList<>();
    private final StringBuilder statements = new StringBuilder();
    private final StringBuilder members = new StringBuilder();

    public static void main(String[] args) throws Exception {
        String readme = Files.readString(Path.of(args[1]), StandardCharsets.UTF_8);
        namesAll(readme);
        ReadmeTests tests = new ReadmeTests();
        Matcher pieces = Pattern.compile("(?s)```java\\n(.*?)```").matcher(readme);
        while (pieces.find()) tests.take(pieces.group(1));
        tests.compare();
        c.close();
    }

    private static void namesAll(String readme) {
        for (Method m : TradeWheel.class.getDeclaredMethods()) {
            boolean shown = readme.contains("x." + m.getName() + "(") || readme.contains("`" + m.getName() + "`");
            if (Modifier.isPublic(m.getModifiers())) c.holds("README.md shows " + m.getName(), shown);
        }
        for (Field f : TradeWheel.class.getFields()) {
            String row = "`" + f.getName() + "` (" + constant(f.getName()) + ")";
            c.holds("README.md tells " + row, readme.contains(row));
        }
    }

    private static long constant(String name) {
        try {
            return TradeWheel.class.getField(name).getInt(null);
        } catch (ReflectiveOperationException none) {
            throw new IllegalArgumentException("no constant " + name, none);
        }
    }

    private void take(String piece) throws IOException {
        if (piece.startsWith("static ")) {
            members.append(piece);
            return;
        }
        for (String row : piece.split("\n")) {
            Matcher call = CALL.matcher(row);
            if (call.matches()) {
                statements.append("answers[").append(calls.size()).append("] = ").append(call.group(1)).append(";\n");
                calls.add(call.group(1));
                String want = call.group(2);
                wants.add(Character.isLetter(want.charAt(0)) ? constant(want) : Long.parseLong(want));
            } else {
                c.holds("README.md's row has an answer: " + row, NEW.matcher(row).matches());
                statements.append(row).append('\n');
            }
        }
    }

    private void compare() throws Exception {
        c.holds("README.md has calls", !calls.isEmpty());
        long[] answers = answers();
        for (int i = 0; i < calls.size(); i++) c.due("README.md, " + calls.get(i), answers[i], wants.get(i));
    }

    private long[] answers() throws Exception {
        Path room = Files.createTempDirectory("readme");
        Path file = room.resolve("Shown.java");
        Files.writeString(file, "public final class Shown {\n" + members + "public static long[] answers() {\nlong[] answers = new long["
            + calls.size() + "];\n" + statements + "return answers;\n}\n}\n", StandardCharsets.UTF_8);
        int errors = ToolProvider.getSystemJavaCompiler().run(null, null, null, "-cp", System.getProperty("java.class.path"),
            "-d", room.toString(), file.toString());
        c.due("README.md's Java compiles", errors, 0);
        if (errors != 0) return new long[calls.size()];
        try (URLClassLoader loader = new URLClassLoader(new URL[] {room.toUri().toURL()})) {
            return (long[]) loader.loadClass("Shown").getMethod("answers").invoke(null);
        } finally {
            Files.deleteIfExists(room.resolve("Shown.class"));
            Files.deleteIfExists(file);
            Files.deleteIfExists(room);
        }
    }
}
