import java.io.PrintWriter;
import java.io.StringWriter;
import java.nio.file.Files;
import java.nio.file.Path;
import java.util.ArrayList;
import java.util.HashMap;
import java.util.HashSet;
import java.util.List;
import java.util.Map;
import java.util.Set;
import java.util.TreeMap;
import java.util.TreeSet;
import java.util.regex.Matcher;
import java.util.regex.Pattern;
import java.util.spi.ToolProvider;
import java.util.stream.Stream;

/**
 * Rules 8 and 11 of LANGUAGE.md: calls go at most eight deep, the library's among them, where methods that
 * call one another in a ring count as one; and only the parser of TEXTS, whose depth is bounded, has such a ring.
 */
public final class CallDepthTest {
    private static final Check CHECK = new Check("CallDepthTest");
    private static final Pattern HEAD = Pattern.compile("^(?:.* )?class (\\S+).*\\{$");
    private static final Pattern METHOD = Pattern.compile("^ {2}\\S.*?([\\w$.]+)\\(.*\\);$");
    private static final Pattern CALLED = Pattern.compile("// Method (?:\"?([\\w$/]+)\"?\\.)?\"?([\\w<>]+)\"?:");
    private static final int DEEPEST = 8;

    private final Map<String, Set<String>> calls = new TreeMap<>();
    private final Map<String, Set<String>> reached = new HashMap<>();
    private final Map<String, Integer> depths = new HashMap<>();

    public static void main(String[] args) throws Exception {
        new CallDepthTest().run();
        CHECK.end();
    }

    private void run() throws Exception {
        read(listing());
        CHECK.due("methods are found", calls.size() > 100, true);
        for (String method : List.copyOf(calls.keySet())) {
            reached.put(method, reachedFrom(method));
        }
        for (String method : calls.keySet()) {
            int depth = depth(method);
            CHECK.due(method + " goes at most eight deep, not " + depth, depth <= DEEPEST, true);
            boolean inRing = reached.get(method).contains(method);
            CHECK.due(method + " may call itself", !inRing || method.startsWith("PrairiePool$Parser.parse"), true);
        }
    }

    private static String listing() throws Exception {
        Path classes = Path.of(PrairiePool.class.getProtectionDomain().getCodeSource().getLocation().toURI());
        List<String> given = new ArrayList<>(List.of("-c", "-p"));
        try (Stream<Path> files = Files.list(classes)) {
            files.map(Path::toString).filter(f -> f.matches(".*/PrairiePool(\\$\\w+)?\\.class")).forEach(given::add);
        }
        StringWriter out = new StringWriter();
        PrintWriter writer = new PrintWriter(out);
        ToolProvider.findFirst("javap").orElseThrow().run(writer, writer, given.toArray(new String[0]));
        return out.toString();
    }

    private void read(String listing) {
        String owner = "";
        String method = "";
        for (String line : listing.split("\n")) {
            Matcher head = HEAD.matcher(line);
            Matcher begun = METHOD.matcher(line);
            Matcher called = CALLED.matcher(line);
            if (head.find()) {
                owner = head.group(1);
            } else if (begun.find()) {
                method = owner + "." + (begun.group(1).equals(owner) ? "<init>" : begun.group(1));
                calls.computeIfAbsent(method, m -> new TreeSet<>());
            } else if (called.find()) {
                calls.get(method).add((called.group(1) == null ? owner : called.group(1)) + "." + called.group(2));
            }
        }
    }

    private Set<String> reachedFrom(String method) {
        Set<String> found = new HashSet<>();
        List<String> open = new ArrayList<>(calls.get(method));
        while (!open.isEmpty()) {
            String next = open.remove(open.size() - 1);
            if (found.add(next)) {
                open.addAll(calls.getOrDefault(next, Set.of()));
            }
        }
        return found;
    }

    private boolean inOneRing(String one, String other) {
        return reached.containsKey(one) && reached.containsKey(other) && reached.get(one).contains(other)
                && reached.get(other).contains(one);
    }

    // All methods of a ring are as deep as what the deepest of them calls outside of it, and one more.
    private int depth(String method) {
        if (depths.containsKey(method)) {
            return depths.get(method);
        }
        int deepest = 0;
        for (String member : ringOf(method)) {
            for (String next : calls.getOrDefault(member, Set.of())) {
                if (!inOneRing(method, next)) {
                    deepest = Math.max(deepest, depth(next));
                }
            }
        }
        depths.put(method, deepest + 1);
        return deepest + 1;
    }

    private Set<String> ringOf(String method) {
        Set<String> ring = new TreeSet<>(Set.of(method));
        for (String other : calls.keySet()) {
            if (inOneRing(method, other)) {
                ring.add(other);
            }
        }
        return ring;
    }
}
