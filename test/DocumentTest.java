import java.io.IOException;
import java.nio.file.DirectoryStream;
import java.nio.file.Files;
import java.nio.file.Path;
import java.util.ArrayList;
import java.util.List;
import java.util.regex.Matcher;
import java.util.regex.Pattern;

/** That no word of the document's Terms and promises is left out: each stands in a sentence that some test quotes. */
public final class DocumentTest {
    private static final Path DOCUMENT = Path.of("../shared/DOC.md");
    private static final Path TESTS = Path.of("test");
    private static final int PROMISES = 44;
    // as a string in Java: what stands between its quotation marks, \" among it
    private static final Pattern QUOTE = Pattern.compile("\\bsentence\\(\"((?:[^\"\\\\]|\\\\.)*)\"\\)");
    // headings, the marks of the parts and of a block of text
    private static final Pattern FRAME = Pattern.compile("## Terms|==== [2-5]\\. |```(text)?|## Promise \\d+: [\\w ]+");

    private static int wrongs = 0;

    private DocumentTest() {
    }

    private static void wrong(String what) {
        wrongs++;
        System.out.println(what);
    }

    public static void main(String[] args) throws IOException {
        String document = Files.readString(DOCUMENT).replaceAll("\\s+", " ");
        List<String> quotes = quotes();
        boolean[] held = new boolean[document.length()];
        for (String quote : quotes) {
            if (!mark(document, quote, held)) {
                wrong("stands nowhere in the document: " + quote);
            }
        }
        Matcher frame = FRAME.matcher(document);
        while (frame.find()) {
            hold(held, frame.start(), frame.end());
        }
        headings(document, held);
        leftOut(document, held);
        System.out.println(quotes.size() + " sentences, " + wrongs + " wrong");
        if (wrongs > 0) {
            System.exit(1);
        }
    }

    private static List<String> quotes() throws IOException {
        List<String> quotes = new ArrayList<>();
        try (DirectoryStream<Path> files = Files.newDirectoryStream(TESTS, "*BoundsTest.java")) {
            for (Path file : files) {
                Matcher m = QUOTE.matcher(Files.readString(file));
                while (m.find()) {
                    quotes.add(m.group(1).replace("\\\"", "\""));
                }
            }
        }
        return quotes;
    }

    private static void hold(boolean[] held, int from, int to) {
        for (int i = from; i < to; i++) {
            held[i] = true;
        }
    }

    private static boolean mark(String document, String quote, boolean[] held) {
        boolean found = false;
        for (int at = document.indexOf(quote); at >= 0; at = document.indexOf(quote, at + 1)) {
            hold(held, at, at + quote.length());
            found = true;
        }
        return found;
    }

    /** A promise's head is a method of the public face, which FaceTest holds; the calls by that name are its tests. */
    private static void headings(String document, boolean[] held) {
        String face = document.substring(document.indexOf("public final class ShingleBank"), document.indexOf("## Terms"));
        Matcher m = Pattern.compile("## Promise (\\d+): ([\\w ]+) (`(\\w+ )?(\\w+)\\([^`]*`:)").matcher(document);
        int promises = 0;
        while (m.find()) {
            promises++;
            String told = m.group(3).substring(1, m.group(3).length() - 2);
            if (!face.contains("public " + told + ";")) {
                wrong("not in the public face: " + told);
            }
            if (Integer.parseInt(m.group(1)) != promises) {
                wrong("promise " + m.group(1) + " stands where " + promises + " should");
            }
            if (!m.group(5).equals("ShingleBank") && !m.group(5).equals(m.group(2))) {
                wrong("promise " + promises + " tells of " + m.group(5));
            }
            hold(held, m.start(), m.end());
        }
        if (promises != PROMISES) {
            wrong("promises that were found: " + promises);
        }
    }

    private static void leftOut(String document, boolean[] held) {
        int end = document.indexOf("## Not promised");
        StringBuilder words = new StringBuilder();
        for (int i = document.indexOf("## Terms"); i <= end; i++) {
            if (i < end && !held[i]) {
                words.append(document.charAt(i));
            } else {
                if (words.toString().matches(".*\\w.*")) {
                    wrong("no test quotes: " + words);
                }
                words.setLength(0);
            }
        }
    }
}
