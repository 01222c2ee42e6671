import java.io.IOException;
import java.lang.reflect.Field;
import java.lang.reflect.Method;
import java.lang.reflect.Modifier;
import java.nio.charset.StandardCharsets;
import java.nio.file.Files;
import java.nio.file.Path;
import java.util.Set;
import java.util.TreeSet;
import java.util.regex.Matcher;
import java.util.regex.Pattern;

/** The face of the document, and those rules of LANGUAGE.md that can be seen from outside. */
public final class LanguageTest {
    private static final Check CHECK = new Check("LanguageTest");
    private static final Path SOURCE = Path.of("src/main/java/PrairiePool.java");
    private static final Path DOCUMENT = Path.of("../shared/DOC.md");

    public static void main(String[] args) throws IOException {
        face();
        classesInside();
        source();
        CHECK.end();
    }

    private static String read(Path path) throws IOException {
        return new String(Files.readAllBytes(path), StandardCharsets.UTF_8);
    }

    private static void face() throws IOException {
        Matcher m = Pattern.compile("(?m)^    public (?!static|PrairiePool)(.*);$").matcher(read(DOCUMENT));
        Set<String> want = new TreeSet<>();
        while (m.find()) {
            // Without the names of what is handed over.
            want.add(m.group(1).replaceAll("(int|long|boolean) \\w+(?=[,)])", "$1"));
        }
        Set<String> got = new TreeSet<>();
        for (Method method : PrairiePool.class.getDeclaredMethods()) {
            int mod = method.getModifiers();
            if (Modifier.isPublic(mod)) {
                StringBuilder s = new StringBuilder(method.getReturnType() + " " + method.getName() + "(");
                for (Class<?> type : method.getParameterTypes()) {
                    s.append(s.charAt(s.length() - 1) == '(' ? "" : ", ").append(type);
                }
                got.add(s.append(")").toString());
                CHECK.due(method + " is no static one", Modifier.isStatic(mod), false);
            } else {
                CHECK.due(method + " is private", Modifier.isPrivate(mod), true);
            }
        }
        CHECK.due("the document's methods", want.size(), 40);
        CHECK.due("the face is " + got + ", due is " + want, got.equals(want), true);
        CHECK.due("the class is final", Modifier.isFinal(PrairiePool.class.getModifiers()), true);
        CHECK.due("the class is public", Modifier.isPublic(PrairiePool.class.getModifiers()), true);
        CHECK.due("constructors", PrairiePool.class.getDeclaredConstructors().length, 1);
        CHECK.due("public constructors", PrairiePool.class.getConstructors().length, 1);
        for (Field field : PrairiePool.class.getDeclaredFields()) {
            boolean isNone = field.getName().equals("NONE");
            CHECK.due(field + " is private", Modifier.isPrivate(field.getModifiers()), !isNone);
        }
        CHECK.due("NONE", PrairiePool.NONE, -1);
    }

    private static void classesInside() {
        Set<String> publicNames = new TreeSet<>();
        for (Method method : PrairiePool.class.getMethods()) {
            publicNames.add(method.getName());
        }
        oneClass(PrairiePool.class, publicNames);
        Class<?>[] inside = PrairiePool.class.getDeclaredClasses();
        CHECK.due("at most twelve classes", inside.length + 1 <= 12, true);
        for (Class<?> c : inside) {
            CHECK.due(c + " is static", Modifier.isStatic(c.getModifiers()), true);
            CHECK.due(c + " is private", Modifier.isPrivate(c.getModifiers()), true);
            oneClass(c, publicNames);
        }
    }

    private static void oneClass(Class<?> c, Set<String> publicNames) {
        int fields = 0;
        for (Field field : c.getDeclaredFields()) {
            if (Modifier.isStatic(field.getModifiers())) {
                CHECK.due(field + " is final", Modifier.isFinal(field.getModifiers()), true);
                boolean may = Set.of("int", "long", "boolean", "char", "java.lang.String", "[I", "[J", "[C", "[B")
                        .contains(field.getType().getName());
                CHECK.due(field + " is of a type that may be", may, true);
            } else {
                fields++;
            }
        }
        CHECK.due(c + " has at most twenty fields, not " + fields, fields <= 20, true);
        for (Method method : c.getDeclaredMethods()) {
            CHECK.due(method + " takes at most seven", method.getParameterCount() <= 7, true);
            boolean isFace = Modifier.isPublic(method.getModifiers());
            CHECK.due(method + " bears no public name", isFace || !publicNames.contains(method.getName()), true);
        }
    }

    private static void source() throws IOException {
        String text = read(SOURCE);
        for (int i = 0; i < text.length(); i++) {
            CHECK.due("a sign of 1 to 127", text.charAt(i) > 0 && text.charAt(i) < 128, true);
        }
        String code = text.replaceAll("(?s)/\\*.*?\\*/", "").replaceAll("//.*", "")
                .replaceAll("\"[^\"]*\"", "\"\"").replaceAll("'.'", "' '");
        String[] not = {"throw", "throws", "try", "catch", "synchronized", "assert", "package", "instanceof",
            "Object", "double", "float", "lambda", "var", "native", "volatile", "protected"};
        for (String word : not) {
            CHECK.due("no " + word, Pattern.compile("\\b" + word + "\\b").matcher(code).find(), false);
        }
        CHECK.due("no lambda", code.contains("->"), false);
        CHECK.due("no method reference", code.contains("::"), false);
        CHECK.due("nothing that is Exact", code.contains("Exact("), false);
        Matcher imports = Pattern.compile("(?m)^import (.*);").matcher(code);
        while (imports.find()) {
            CHECK.due("import of " + imports.group(1), imports.group(1).equals("java.util.Arrays"), true);
        }
        Matcher calls = Pattern.compile("\\b(Math|Arrays|Integer|Long|System|String)\\.(\\w+)").matcher(code);
        Set<String> may = Set.of("Math.max", "Math.min", "Arrays.fill", "System.arraycopy", "Integer.compare",
                "Integer.bitCount", "Long.compare");
        while (calls.find()) {
            CHECK.due("use of " + calls.group(), may.contains(calls.group()), true);
        }
        methodsAreShort(code);
    }

    // A method begins and ends at the same indent.
    private static void methodsAreShort(String code) {
        String[] lines = code.split("\n");
        for (int i = 0; i < lines.length; i++) {
            Matcher m = Pattern.compile("^( +)[\\w\\[\\], ]+\\(.*\\) \\{$").matcher(lines[i]);
            if (m.find() && (m.group(1).length() == 4 || m.group(1).length() == 8)) {
                int end = i;
                while (end < lines.length && !lines[end].equals(m.group(1) + "}")) {
                    end++;
                }
                CHECK.due(lines[i].strip() + " is short, not " + (end - i), end - i <= 60, true);
            }
        }
    }
}
