import java.util.ArrayList;
import java.util.LinkedHashMap;
import java.util.List;
import java.util.Map;
import java.util.Set;
import java.util.function.Function;
import java.util.regex.Matcher;
import java.util.regex.Pattern;

/** A TEXT of ACTS as a tree that is asked anew each time; none is null. */
final class ModelText {
    static final class Fault extends RuntimeException {
        private static final long serialVersionUID = 1;
        final int kind;
        final int place;

        Fault(int kind, int place) {
            super(null, null, false, false);
            this.kind = kind;
            this.place = place;
        }
    }

    private interface Value extends Function<Map<String, Long>, Long> { }

    private interface Holds extends Function<Map<String, Long>, Boolean> { }

    private static final Set<String> KEYS = Set.of("if", "then", "else", "and", "or", "not", "least", "most");
    private static final Set<String> VARIABLES = Set.of("grade", "grader", "week", "year", "bushels", "acres",
            "debt", "district", "cars", "waits", "price");
    private static final Pattern TOKEN = Pattern.compile("[ \n]*([a-z]+|[0-9]+|[:;<>=+\\-*/%(),])?");

    private final Map<String, Value> defs = new LinkedHashMap<>();
    private final List<String> tokens = new ArrayList<>();
    private final List<Integer> places = new ArrayList<>();
    private int now;

    ModelText(String text) {
        Matcher m = TOKEN.matcher(text);
        int at = 0;
        while (at < text.length()) {
            m.region(at, text.length());
            m.lookingAt();
            if (m.group(1) == null) {
                if (m.end() < text.length()) {
                    tokens.add("BROKEN");
                    places.add(m.end());
                }
                break;
            }
            boolean tooLong = m.group(1).matches("[0-9]{7,}");
            tokens.add(tooLong ? "BROKEN" : m.group(1));
            places.add(m.start(1));
            at = m.end();
        }
        tokens.add("END");
        places.add(text.length());
        while (!look().equals("END")) {
            def();
        }
    }

    int size() {
        return defs.size();
    }

    Long valueOf(String name, Map<String, Long> told) {
        Value v = defs.get(name);
        return v == null ? null : v.apply(told);
    }

    private String look() {
        String t = tokens.get(now);
        if (t.equals("BROKEN")) {
            throw new Fault(1, places.get(now));
        }
        return t;
    }

    private Fault fault(int kind) {
        return new Fault(kind, places.get(now));
    }

    private boolean isWord() {
        return look().matches("[a-z]+");
    }

    private String need(String want) {
        if (!look().equals(want)) {
            throw fault(2);
        }
        return tokens.get(now++);
    }

    private boolean eat(String want) {
        if (look().equals(want)) {
            now++;
            return true;
        }
        return false;
    }

    private void def() {
        String name = look();
        if (!isWord() || name.length() > 8 || KEYS.contains(name) || VARIABLES.contains(name)) {
            throw fault(2);
        }
        if (defs.size() == 10) {
            throw fault(3);
        }
        if (defs.containsKey(name)) {
            throw fault(4);
        }
        now++;
        need(":");
        Value v = whole(1);
        need(";");
        defs.put(name, v);
    }

    private void begin(int depth, boolean mayBeIf) {
        String t = look();
        boolean can = t.equals("(") || t.equals("least") || t.equals("most") || t.matches("[0-9]+")
                || isWord() && !KEYS.contains(t) || mayBeIf && t.equals("if");
        if (!can) {
            throw fault(2);
        }
        if (depth > 8) {
            throw fault(5);
        }
    }

    private Value whole(int depth) {
        begin(depth, true);
        if (!eat("if")) {
            return sum(depth);
        }
        Holds test = test(depth);
        need("then");
        Value yes = whole(depth + 1);
        need("else");
        Value no = whole(depth + 1);
        return v -> test.apply(v) ? yes.apply(v) : no.apply(v);
    }

    private Holds test(int depth) {
        List<Holds> ones = new ArrayList<>();
        ones.add(one(depth));
        String joint = look();
        if (!joint.equals("and") && !joint.equals("or")) {
            return ones.get(0);
        }
        while (eat(joint)) {
            ones.add(one(depth));
        }
        return joint.equals("and") ? v -> ones.stream().allMatch(o -> o.apply(v))
                : v -> ones.stream().anyMatch(o -> o.apply(v));
    }

    private Holds one(int depth) {
        boolean not = eat("not");
        Value a = sum(depth);
        String sign = look();
        if (!sign.equals("<") && !sign.equals(">") && !sign.equals("=")) {
            throw fault(2);
        }
        now++;
        Value b = sum(depth);
        return v -> {
            Long x = a.apply(v);
            Long y = b.apply(v);
            if (x == null || y == null) {
                return false;
            }
            boolean is = sign.equals("<") ? x < y : sign.equals(">") ? x > y : x.longValue() == y.longValue();
            return is != not;
        };
    }

    private Value sum(int depth) {
        Value left = item(depth);
        while (look().equals("+") || look().equals("-")) {
            left = both(tokens.get(now++), left, item(depth));
        }
        return left;
    }

    private Value item(int depth) {
        Value left = atom(depth);
        while (look().equals("*") || look().equals("/") || look().equals("%")) {
            left = both(tokens.get(now++), left, atom(depth));
        }
        return left;
    }

    private static Value both(String op, Value a, Value b) {
        return v -> {
            Long x = a.apply(v);
            Long y = b.apply(v);
            if (x == null || y == null || y == 0 && (op.equals("/") || op.equals("%"))) {
                return null;
            }
            return switch (op) {
                case "+" -> x + y;
                case "-" -> x - y;
                case "*" -> x * y;
                case "/" -> x / y;
                case "%" -> x % y;
                case "least" -> Math.min(x, y);
                default -> Math.max(x, y);
            };
        };
    }

    private Value atom(int depth) {
        String t = look();
        if (t.matches("[0-9]+")) {
            now++;
            long n = Long.parseLong(t);
            return v -> n;
        }
        if (eat("(")) {
            Value v = whole(depth + 1);
            need(")");
            return v;
        }
        if (eat("least") || eat("most")) {
            need("(");
            begin(depth + 1, false);
            Value a = sum(depth + 1);
            need(",");
            begin(depth + 1, false);
            Value b = sum(depth + 1);
            need(")");
            return both(t, a, b);
        }
        if (!isWord() || KEYS.contains(t)) {
            throw fault(2);
        }
        if (VARIABLES.contains(t)) {
            now++;
            return v -> v.getOrDefault(t, 0L);
        }
        if (!defs.containsKey(t)) {
            throw fault(6);
        }
        now++;
        Value def = defs.get(t);
        return v -> def.apply(v);
    }
}
