import java.util.ArrayList;
import java.util.List;
import java.util.Random;

/** TEXTS by chance: most are sound, some have a TOKEN that can't stand, some are cut off. */
final class RandomText {
    private static final String[] ASKED = {"rank", "first", "held", "stand", "breach", "turn", "votes"};
    private static final String[] VARIABLES = {"grade", "grader", "week", "year", "bushels", "acres", "debt",
        "district", "cars", "waits", "price"};
    private static final String[] STRAY = {"if", "then", "else", "and", "or", "not", "least", "most", ":", ";", "<",
        ">", "=", "+", "-", "*", "/", "%", "(", ")", ",", "1234567", "zz", "abcdefghi", "$", "A", "\t", "0",
        "999999", "week", "rank", "ab", "\u00e9", "\n"};

    private final Random chance;
    private final List<String> tokens = new ArrayList<>();
    private final List<String> names = new ArrayList<>();

    RandomText(Random chance) {
        this.chance = chance;
    }

    String next() {
        tokens.clear();
        names.clear();
        int defs = chance.nextInt(12) == 0 ? 9 + chance.nextInt(3) : 1 + chance.nextInt(6);
        for (int i = 0; i < defs && size() < 400; i++) {
            def();
        }
        if (chance.nextInt(2) == 0 && !names.contains("breach") && names.size() < 10) {
            breachThatShows();
        }
        if (chance.nextInt(3) == 0) {
            spoil();
        }
        String text = joined();
        if (text.length() > 500) {
            return text.substring(0, 500);
        }
        return chance.nextInt(12) == 0 ? text.substring(0, chance.nextInt(text.length() + 1)) : text;
    }

    /** A TEXT without a FAULT, with numbers that matter: most of what it says is within bounds. */
    String soundText() {
        StringBuilder s = new StringBuilder();
        int[] most = {5, 60, 900, 900, 40, 900, 9};
        for (int i = 0; i < ASKED.length; i++) {
            if (chance.nextInt(4) > 0) {
                String about = VARIABLES[chance.nextInt(VARIABLES.length)];
                int n = 1 + chance.nextInt(most[i]);
                s.append(ASKED[i]).append(':');
                switch (chance.nextInt(4)) {
                    case 0 -> s.append(n);
                    case 1 -> s.append(n).append('+').append(about).append('%').append(n);
                    case 2 -> s.append("if ").append(about).append('>').append(chance.nextInt(6)).append(" then ")
                            .append(n).append(" else ").append(about);
                    default -> s.append("least(").append(n).append(',').append(about).append("*3)/")
                            .append(chance.nextInt(3));
                }
                s.append("; ");
            }
        }
        return s.toString();
    }

    private int size() {
        int all = 0;
        for (String t : tokens) {
            all += t.length() + 1;
        }
        return all;
    }

    private void spoil() {
        if (tokens.isEmpty()) {
            return;
        }
        int at = chance.nextInt(tokens.size());
        String stray = STRAY[chance.nextInt(STRAY.length)];
        switch (chance.nextInt(3)) {
            case 0 -> tokens.set(at, stray);
            case 1 -> tokens.add(at, stray);
            default -> tokens.remove(at);
        }
    }

    private String joined() {
        StringBuilder s = new StringBuilder();
        boolean tight = chance.nextBoolean();
        for (String t : tokens) {
            boolean needs = s.length() > 0 && Character.isLetterOrDigit(t.charAt(0))
                    && Character.isLetterOrDigit(s.charAt(s.length() - 1));
            if (needs || !tight && chance.nextInt(3) == 0) {
                s.append(chance.nextInt(6) == 0 ? '\n' : ' ');
            }
            s.append(t);
        }
        return s.toString();
    }

    private void def() {
        String name = ASKED[chance.nextInt(ASKED.length)];
        if (names.contains(name) || chance.nextInt(4) == 0) {
            name = "";
            for (int i = 1 + chance.nextInt(3); i > 0; i--) {
                name += (char) ('a' + chance.nextInt(4));
            }
        }
        tokens.add(name);
        tokens.add(":");
        whole(1);
        tokens.add(";");
        names.add(name);
    }

    // Whatever the number is, what comes out is within bounds.
    private void breachThatShows() {
        tokens.addAll(List.of("breach", ":", "500", "+", "("));
        whole(2);
        tokens.addAll(List.of(")", "%", "499", ";"));
    }

    private void whole(int depth) {
        if (chance.nextInt(depth < 3 ? 2 : 5) > 0 || size() > 380) {
            sum(depth);
            return;
        }
        tokens.add("if");
        test(depth);
        tokens.add("then");
        whole(depth + 1);
        tokens.add("else");
        whole(depth + 1);
    }

    private void test(int depth) {
        String joint = chance.nextBoolean() ? "and" : "or";
        int ones = chance.nextInt(3) == 0 ? 2 + chance.nextInt(2) : 1;
        for (int i = 0; i < ones; i++) {
            if (i > 0) {
                tokens.add(joint);
            }
            if (chance.nextInt(4) == 0) {
                tokens.add("not");
            }
            sum(depth);
            tokens.add(new String[] {"<", ">", "="}[chance.nextInt(3)]);
            sum(depth);
        }
    }

    private void sum(int depth) {
        item(depth);
        while (chance.nextInt(4) == 0 && size() < 440) {
            tokens.add(chance.nextBoolean() ? "+" : "-");
            item(depth);
        }
    }

    private void item(int depth) {
        atom(depth);
        while (chance.nextInt(4) == 0 && size() < 440) {
            tokens.add(new String[] {"*", "/", "%"}[chance.nextInt(3)]);
            atom(depth);
        }
    }

    private void atom(int depth) {
        // Some go deeper than they may.
        int kind = size() > 400 ? 0 : chance.nextInt(12);
        if (kind == 9 || kind == 10 && depth > 5) {
            tokens.add("(");
            whole(depth + 1);
            tokens.add(")");
        } else if (kind == 11) {
            tokens.add(chance.nextBoolean() ? "least" : "most");
            tokens.add("(");
            sum(depth + 1);
            tokens.add(",");
            sum(depth + 1);
            tokens.add(")");
        } else if (kind > 6 && !names.isEmpty()) {
            tokens.add(names.get(chance.nextInt(names.size())));
        } else if (kind > 3) {
            tokens.add(VARIABLES[chance.nextInt(VARIABLES.length)]);
        } else {
            tokens.add(Integer.toString(chance.nextInt(3) == 0 ? chance.nextInt(1000000) : chance.nextInt(12)));
        }
    }
}
