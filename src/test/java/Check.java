import java.io.IOException;
import java.io.UncheckedIOException;
import java.nio.charset.StandardCharsets;
import java.nio.file.Files;
import java.nio.file.Path;

/** Counts answers that are not as due, and ends a test with exit code 1 if there were some. */
final class Check {
    private static final Path DOCUMENT = Path.of("../shared/DOC.md");

    private final String test;
    private String document = "";
    private String sentence = "";
    private int asked;
    private int wrong;

    Check(String test) {
        this.test = test;
    }

    void due(String call, long got, long want) {
        asked++;
        if (got != want) {
            wrong++;
            if (wrong <= 40) {
                System.out.println(test + ": " + call + " answered " + got + ", due is " + want + sentence);
            }
        }
    }

    void due(String call, boolean got, boolean want) {
        due(call, got ? 1 : 0, want ? 1 : 0);
    }

    /** Tests one sentence of the document: its words must stand there, and are told where it fails. */
    void says(String words, Runnable tested) {
        if (document.isEmpty()) {
            document = read(DOCUMENT).replaceAll("\\s+", " ");
        }
        due("the document says: " + words, document.contains(words), true);
        sentence = "; the document: " + words;
        tested.run();
        sentence = "";
    }

    private static String read(Path path) {
        try {
            return Files.readString(path);
        } catch (IOException e) {
            throw new UncheckedIOException(e);
        }
    }

    /** An answer, and the STATUS behind it. */
    void due(PrairiePool x, String call, long got, long want, int status) {
        due(call, got, want);
        due("status() behind " + call, x.status(), status);
    }

    void due(PrairiePool x, String call, boolean got, boolean want, int status) {
        due(x, call, got ? 1 : 0, want ? 1 : 0, status);
    }

    /** A call that must be refused with a STATUS. */
    void refused(PrairiePool x, String call, long got, int status) {
        due(x, call, got, PrairiePool.NONE, status);
    }

    void refused(PrairiePool x, String call, boolean got, int status) {
        due(x, call, got, false, status);
    }

    void end() {
        System.out.println(test + ": " + asked + " answers, " + wrong + " not as due");
        if (wrong != 0) {
            System.exit(1);
        }
    }

    /** Feeds a text, with blanks behind it up to twenty bytes. */
    static void feed(PrairiePool x, String text) {
        feed(x, text.getBytes(StandardCharsets.ISO_8859_1));
    }

    static void feed(PrairiePool x, byte[] text) {
        for (int at = 0; at < text.length; at += 20) {
            x.feed(four(text, at), four(text, at + 4), four(text, at + 8), four(text, at + 12),
                    four(text, at + 16));
        }
    }

    /** Feeds a text and makes it a TEXT in force from a WEEK on. */
    static int acts(PrairiePool x, String text, int from) {
        feed(x, text);
        return x.acts(text.length(), from);
    }

    private static int four(byte[] text, int at) {
        int v = 0;
        for (int i = at; i < at + 4; i++) {
            v = v << 8 | (i < text.length ? text[i] & 255 : ' ');
        }
        return v;
    }
}
