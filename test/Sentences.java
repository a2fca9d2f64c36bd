import java.io.IOException;
import java.io.UncheckedIOException;
import java.nio.file.Files;
import java.nio.file.Path;
import java.util.NoSuchElementException;
import java.util.TreeSet;

/** The document's sentences that name a boundary, each with the checks that hold it. */
abstract class Sentences {
    interface Call {
        long answer();
    }

    static final Class<?> OUTSIDE = IndexOutOfBoundsException.class;
    static final Class<?> MISSING = NoSuchElementException.class;
    static final Class<?> WRONG = IllegalArgumentException.class;
    static final Class<?> BARRED = IllegalStateException.class;
    static final int MIN = Integer.MIN_VALUE;
    static final int MAX = Integer.MAX_VALUE;

    private static final Class<?>[] BY_STATUS = {OUTSIDE, MISSING, WRONG, BARRED};
    private static final String DOCUMENT = document();

    private static String now = "no sentence";
    private static int sentences = 0;
    private static int checks = 0;
    private static int wrongs = 0;
    private static int checksAtBegin = 0;
    private static final TreeSet<Integer> PROMISES = new TreeSet<>();

    Sentences() {
    }

    private static String document() {
        try {
            return Files.readString(Path.of("../shared/DOC.md")).replaceAll("\\s+", " ");
        } catch (IOException e) {
            throw new UncheckedIOException(e);
        }
    }

    /** All checks till the next one belong to this sentence, which has to stand in the document word by word. */
    static void sentence(String quote) {
        closeSentence();
        now = quote;
        sentences++;
        checksAtBegin = checks;
        int at = DOCUMENT.indexOf(quote);
        if (at < 0) {
            wrong("stands nowhere in the document");
            return;
        }
        String heading = "## Promise ";
        int begin = DOCUMENT.lastIndexOf(heading, at);
        if (begin >= 0) {
            int number = begin + heading.length();
            PROMISES.add(Integer.parseInt(DOCUMENT.substring(number, DOCUMENT.indexOf(':', number))));
        }
    }

    /** Of each promise a sentence must have been told. */
    static void needPromises(int first, int last) {
        for (int n = first; n <= last; n++) {
            if (!PROMISES.contains(n)) {
                wrong("behind it no sentence of promise " + n + " is left, and none was told");
            }
        }
    }

    private static void closeSentence() {
        if (sentences > 0 && checks == checksAtBegin) {
            wrong("has no check");
        }
    }

    private static void wrong(String what) {
        wrongs++;
        System.out.println("\"" + now + "\": " + what);
    }

    static void due(String what, long got, long want) {
        checks++;
        if (got != want) {
            wrong(what + " answered " + got + ", due is " + want);
        }
    }

    /** A refusal: exactly this exception, and counted by its reason, and by that alone. */
    static void refused(ShingleBank b, String what, Class<?> by, Call call) {
        checks++;
        int[] ahead = statusOf(b);
        String got;
        try {
            got = "answered " + call.answer();
        } catch (RuntimeException e) {
            got = e.getClass() == by ? "" : "throws " + e;
        }
        if (!got.isEmpty()) {
            wrong(what + " " + got + ", due is " + by.getSimpleName());
        }
        int[] then = statusOf(b);
        for (int i = 0; i < 4; i++) {
            if (then[i] != ahead[i] + (BY_STATUS[i] == by ? 1 : 0)) {
                wrong(what + ": status " + i + " went from " + ahead[i] + " to " + then[i]);
            }
        }
    }

    private static int[] statusOf(ShingleBank b) {
        int[] counts = new int[4];
        for (int i = 0; i < 4; i++) {
            counts[i] = b.status(i);
        }
        return counts;
    }

    /** Ends the run: by exit code 1 if a check did not hold. */
    static void end() {
        closeSentence();
        System.out.println(sentences + " sentences, " + checks + " checks, " + wrongs + " wrong");
        if (wrongs > 0) {
            System.exit(1);
        }
    }

    // ---- what nearly every check begins with ----

    static String many(String part, int n) {
        return part.repeat(Math.max(0, n));
    }

    /** A BEACH, a LAW 0, a YEAR 0; none of the three may be faulty. */
    static ShingleBank on(String beach, String law, String year) {
        ShingleBank b = new ShingleBank();
        due("beach " + beach, Texts.beach(b, beach) >= 2 ? 1 : 0, 1);
        due("law " + law, Texts.law(b, law), 0);
        due("year " + year, Texts.year(b, year), 0);
        return b;
    }

    static ShingleBank on(String beach, String law) {
        return on(beach, law, "wave 1 1 0;");
    }

    static ShingleBank on(String beach) {
        return on(beach, "");
    }

    /** Lets HOURS go by, by a LAW and a YEAR that are there. */
    static void pass(ShingleBank b, int law, int year, int hours) {
        for (int left = hours; left > 0; left -= 200) {
            b.lots(law, year, Math.min(200, left), 1);
        }
    }
}
