import java.io.ByteArrayOutputStream;
import java.io.PrintStream;
import java.lang.reflect.Modifier;
import java.net.URL;
import java.net.URLClassLoader;
import java.nio.charset.StandardCharsets;
import java.nio.file.Files;
import java.nio.file.Path;
import java.util.Arrays;
import java.util.Set;
import java.util.TreeSet;
import java.util.regex.Matcher;
import java.util.regex.Pattern;
import java.util.spi.ToolProvider;
import java.util.stream.Collectors;

/** README.md: its program prints what it says, and its tables name each call and each STATUS. */
public final class ReadmeTest {
    private static final Check CHECK = new Check("ReadmeTest");

    public static void main(String[] args) throws Exception {
        String readme = Files.readString(Path.of("README.md"));
        program(block(readme, "java"), block(readme, "text"));
        calls(readme);
        for (int status = 0; status <= 12; status++) {
            CHECK.due("STATUS " + status + " is told", readme.contains("\n| " + status + " | "), true);
        }
        CHECK.end();
    }

    private static String block(String readme, String kind) {
        Matcher m = Pattern.compile("(?s)```" + kind + "\n(.*?)```").matcher(readme);
        boolean found = m.find();
        CHECK.due("README.md has a block of " + kind, found, true);
        return found ? m.group(1) : "";
    }

    private static void program(String source, String due) throws Exception {
        Path room = Files.createTempDirectory("readme");
        try {
            String printed = run(room, source);
            String[] got = printed.split("\n");
            String[] want = due.split("\n");
            CHECK.due("lines printed", got.length, want.length);
            for (int i = 0; i < Math.min(got.length, want.length); i++) {
                CHECK.due("line " + got[i] + " where README.md says " + want[i], got[i].equals(want[i]), true);
            }
        } finally {
            for (Path file : Files.list(room).toList()) {
                Files.delete(file);
            }
            Files.delete(room);
        }
    }

    private static String run(Path room, String source) throws Exception {
        Path file = Files.writeString(room.resolve("Example.java"), source);
        URL classes = PrairiePool.class.getProtectionDomain().getCodeSource().getLocation();
        int code = ToolProvider.findFirst("javac").orElseThrow().run(System.out, System.out, "-cp",
                Path.of(classes.toURI()).toString(), "-d", room.toString(), file.toString());
        CHECK.due("README.md's program compiles", code, 0);
        if (code != 0) {
            return "";
        }
        PrintStream before = System.out;
        ByteArrayOutputStream printed = new ByteArrayOutputStream();
        try (URLClassLoader loader = new URLClassLoader(new URL[] {room.toUri().toURL()})) {
            System.setOut(new PrintStream(printed, true, StandardCharsets.UTF_8));
            loader.loadClass("Example").getMethod("main", String[].class).invoke(null, (Object) new String[0]);
        } finally {
            System.setOut(before);
        }
        return printed.toString(StandardCharsets.UTF_8).replace("\r", "");
    }

    // But for status(), which the words around the tables tell of, each call stands in the table of calls once.
    private static void calls(String readme) {
        Set<String> want = Arrays.stream(PrairiePool.class.getDeclaredMethods())
                .filter(m -> Modifier.isPublic(m.getModifiers())).map(m -> m.getName())
                .filter(name -> !name.equals("status")).collect(Collectors.toCollection(TreeSet::new));
        Set<String> got = new TreeSet<>();
        Matcher row = Pattern.compile("(?m)^\\| [^|]* \\| (`[^|]*) \\|$").matcher(readme);
        while (row.find()) {
            for (String name : row.group(1).replace("`", "").split(", ")) {
                CHECK.due(name + " stands there once", got.add(name), true);
            }
        }
        CHECK.due("calls told are " + got + ", due are " + want, got.equals(want), true);
    }
}
