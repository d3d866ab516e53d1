import java.io.IOException;
import java.nio.file.Files;
import java.nio.file.Path;

/** What the tests by sentences share: the sentence that is tried, what is due, how the test ends. */
final class Told {
    static final int LEAST = Integer.MIN_VALUE;
    static final int GREATEST = Integer.MAX_VALUE;
    static final int VOID = -2000000000;
    static final int BYTES = 0, SHORTS = 1, INTS = 2, LONGS = 3, BOOLEANS = 4;

    private static final String DOCUMENT = document();
    private static String sentence = "";
    private static int sentences = 0;
    private static int tried = 0;
    private static int wrong = 0;

    private Told() {
    }

    private static String document() {
        try {
            return Files.readString(Path.of("../shared/DOC.md")).replaceAll("\\s+", " ");
        } catch (IOException e) {
            throw new IllegalStateException("../shared/DOC.md is not there", e);
        }
    }

    /** From here on this sentence of the document is tried: its words must stand there. */
    static void says(String words) {
        close();
        sentence = words;
        sentences++;
        tried = 0;
        if (!DOCUMENT.contains(words)) {
            fail("the document does not say so");
        }
    }

    private static void close() {
        if (sentences > 0 && tried == 0) {
            fail("is not tried");
        }
    }

    private static void fail(String what) {
        wrong++;
        System.out.println("\"" + sentence + "\": " + what);
    }

    static void due(String call, long got, long want) {
        tried++;
        if (got != want) {
            fail(call + " answered " + got + ", due is " + want);
        }
    }

    static void end(String name) {
        close();
        System.out.println(name + ": " + sentences + " sentences tried, " + wrong + " faults");
        if (wrong != 0) {
            System.exit(1);
        }
    }

    /** A piece by twos of RIGHT, WRONG. */
    static PractisedWrong piece(int... rightWrong) {
        PractisedWrong x = new PractisedWrong();
        for (int i = 0; i + 1 < rightWrong.length; i += 2) {
            x.bar(rightWrong[i], rightWrong[i + 1]);
        }
        return x;
    }

    /** A piece in which a night takes off nothing and brings back nothing. */
    static PractisedWrong lasting(int... rightWrong) {
        PractisedWrong x = piece(rightWrong);
        x.mend(0, 5, 0);
        x.mend(0, 6, 0);
        return x;
    }

    static int tell(PractisedWrong x, String text) {
        for (int i = 0; i < text.length(); i++) {
            x.feed(text.charAt(i));
        }
        return x.law();
    }

    static void row(PractisedWrong x, int shelf, int sort, long... values) {
        x.row(shelf, sort, values.length);
        for (int i = 0; i < values.length; i++) {
            x.put(shelf, i, values[i]);
        }
    }

    static void bytes(PractisedWrong x, int shelf, long... values) {
        row(x, shelf, BYTES, values);
    }

    static String times(String part, int n) {
        return part.repeat(n);
    }
}
