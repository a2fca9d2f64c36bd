import java.io.IOException;
import java.lang.reflect.Method;
import java.lang.reflect.Modifier;
import java.nio.file.Files;
import java.nio.file.Path;
import java.util.ArrayList;
import java.util.List;
import java.util.regex.Matcher;
import java.util.regex.Pattern;

/**
 * Makes a test of what README.md shows: its blocks of Java, from the first to the last, in one program, each answer held
 * against what stands behind its line. Called with README.md and the directory where ReadmeTest.java is to stand.
 */
public final class ReadmeProgram {
    private static final Pattern BLOCK = Pattern.compile("```java\n(.*?)```", Pattern.DOTALL);
    private static final Pattern TOLD = Pattern.compile("(.*);\\s+// (?:(-?\\d+)|throws (\\w+))(?:: .*)?", Pattern.DOTALL);
    private static final Pattern MADE = Pattern.compile("ShingleBank \\w+ = new ShingleBank\\(\\);");

    private static final List<String> HELPERS = new ArrayList<>();
    private static final List<String> LINES = new ArrayList<>();
    private static int wrongs = 0;

    private ReadmeProgram() {
    }

    private static void wrong(String what) {
        wrongs++;
        System.out.println("README.md: " + what);
    }

    public static void main(String[] args) throws IOException {
        String page = Files.readString(Path.of(args[0]));
        Matcher block = BLOCK.matcher(page);
        while (block.find()) {
            if (block.group(1).startsWith("static ")) {
                HELPERS.add(block.group(1));
            } else {
                readBlock(block.group(1));
            }
        }
        needAllMethods();
        if (wrongs > 0) {
            System.exit(1);
        }
        Path directory = Path.of(args[1]);
        Files.createDirectories(directory);
        Files.writeString(directory.resolve("ReadmeTest.java"), program());
    }

    /** A call may go on for some lines; the last one bears its answer. */
    private static void readBlock(String block) {
        StringBuilder call = new StringBuilder();
        for (String line : block.split("\n")) {
            call.append(call.length() == 0 ? "" : " ").append(line.strip());
            if (line.contains(";   //") || line.endsWith(";")) {
                readCall(call.toString());
                call.setLength(0);
            }
        }
        if (call.length() > 0) {
            wrong("does not end: " + call);
        }
    }

    private static void readCall(String call) {
        Matcher told = TOLD.matcher(call);
        if (told.matches() && told.group(2) != null) {
            LINES.add("due(" + quoted(call) + ", () -> " + told.group(1) + ", " + told.group(2) + "L);");
        } else if (told.matches()) {
            LINES.add("refused(" + quoted(call) + ", () -> " + told.group(1) + ", \"" + told.group(3) + "\");");
        } else if (MADE.matcher(call).matches()) {
            LINES.add(call);
        } else {
            wrong("a line that tells no answer: " + call);
        }
    }

    private static String quoted(String text) {
        return "\"" + text.replace("\\", "\\\\").replace("\"", "\\\"") + "\"";
    }

    private static void needAllMethods() {
        String all = String.join("\n", LINES) + String.join("\n", HELPERS);
        for (Method method : ShingleBank.class.getDeclaredMethods()) {
            if (Modifier.isPublic(method.getModifiers()) && !all.contains("bank." + method.getName() + "(")) {
                wrong("does not show " + method.getName());
            }
        }
    }

    private static String program() {
        return """
            public final class ReadmeTest {
                interface Call {
                    long answer();
                }

                private static int lines = 0;
                private static int wrongs = 0;

                private static void due(String line, Call call, long want) {
                    lines++;
                    String got;
                    try {
                        long answer = call.answer();
                        got = answer == want ? "" : "answered " + answer;
                    } catch (RuntimeException e) {
                        got = "throws " + e;
                    }
                    tell(line, got);
                }

                private static void refused(String line, Call call, String by) {
                    lines++;
                    String got;
                    try {
                        got = "answered " + call.answer();
                    } catch (RuntimeException e) {
                        got = e.getClass().getSimpleName().equals(by) ? "" : "throws " + e;
                    }
                    tell(line, got);
                }

                private static void tell(String line, String got) {
                    if (!got.isEmpty()) {
                        wrongs++;
                        System.out.println(line + " - " + got);
                    }
                }

                HELPERS
                public static void main(String[] args) {
                    LINES
                    System.out.println(lines + " lines of README.md, " + wrongs + " wrong");
                    if (wrongs > 0 || lines == 0) {
                        System.exit(1);
                    }
                }
            }
            """.replace("HELPERS", String.join("\n", HELPERS)).replace("LINES", String.join("\n        ", LINES));
    }
}
