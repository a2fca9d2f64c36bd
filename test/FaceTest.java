import java.io.IOException;
import java.lang.reflect.Constructor;
import java.lang.reflect.Field;
import java.lang.reflect.Method;
import java.lang.reflect.Modifier;
import java.nio.file.Files;
import java.nio.file.Path;
import java.util.ArrayList;
import java.util.List;
import java.util.Set;
import java.util.TreeSet;
import java.util.regex.Matcher;
import java.util.regex.Pattern;

/** The public face as the document tells it, and the rules of the language that can be seen from outside. */
public final class FaceTest {
    private static final Path DOCUMENT = Path.of("../shared/DOC.md");
    private static final Path SOURCE = Path.of("src/main/java/ShingleBank.java");
    // \b keeps words whole; all of these are ruled out by LANGUAGE.md
    private static final String[] BARRED = {
        "->", "::", "\\bfinally\\b", "\\bsynchronized\\b", "\\bassert\\b", "\\bcatch\\b", "\\bException e\\b", "\\bpackage\\b", "\\bSystem\\.(?!arraycopy)",
        "\\bThread\\b", "\\bRandom\\b", "Exact\\(", "\\bStringBuilder\\b", "\\bequals\\(", "\\bString\\.", "\\bObject\\b", "\\bthrow new \\w+\\([^\")]"};
    private static final Set<String> IMPORTS = Set.of("import java.util.Arrays;", "import java.util.NoSuchElementException;");

    private static int wrongs = 0;

    private FaceTest() {
    }

    private static void need(boolean right, String what) {
        if (!right) {
            wrongs++;
            System.out.println(what);
        }
    }

    public static void main(String[] args) throws IOException {
        String document = Files.readString(DOCUMENT);
        String source = Files.readString(SOURCE);
        face(document);
        inside();
        words(source);
        methods(source);
        System.out.println("the face and the language: " + wrongs + " wrong");
        if (wrongs > 0) {
            System.exit(1);
        }
    }

    private static void face(String document) {
        Set<String> want = new TreeSet<>();
        String block = document.substring(document.indexOf("public final class ShingleBank"), document.indexOf("## Terms"));
        Matcher m = Pattern.compile("public (int|long) (\\w+)\\(([^)]*)\\)( throws ([\\w, ]+))?;").matcher(block);
        while (m.find()) {
            String types = m.group(3).replaceAll("(int|long) \\w+", "$1").replace(" ", "");
            Set<String> thrown = new TreeSet<>(List.of((m.group(5) == null ? "" : m.group(5)).split(", ")));
            want.add(m.group(1) + " " + m.group(2) + "(" + types + ") " + thrown);
        }
        need(want.size() >= 43, "the document's methods are " + want.size());
        Set<String> got = new TreeSet<>();
        for (Method method : ShingleBank.class.getDeclaredMethods()) {
            if (Modifier.isPublic(method.getModifiers())) {
                List<String> types = new ArrayList<>();
                for (Class<?> type : method.getParameterTypes()) {
                    types.add(type.getName());
                }
                Set<String> thrown = new TreeSet<>();
                for (Class<?> type : method.getExceptionTypes()) {
                    thrown.add(type.getSimpleName());
                }
                got.add(method.getReturnType() + " " + method.getName() + "(" + String.join(",", types) + ") " + (thrown.isEmpty() ? "[]" : thrown));
                need(!Modifier.isStatic(method.getModifiers()), "static: " + method.getName());
            } else {
                need(Modifier.isPrivate(method.getModifiers()), "neither public nor private: " + method.getName());
            }
        }
        for (String one : want) {
            need(got.remove(one), "missing: " + one);
        }
        need(got.isEmpty(), "too many: " + got);
        Constructor<?>[] made = ShingleBank.class.getDeclaredConstructors();
        need(made.length == 1 && Modifier.isPublic(made[0].getModifiers()) && made[0].getParameterCount() == 0, "constructors");
        need(Modifier.isFinal(ShingleBank.class.getModifiers()), "the class is not final");
        need(ShingleBank.NONE == -1, "NONE");
        need(ShingleBank.class.getSuperclass() == Object.class && ShingleBank.class.getInterfaces().length == 0, "it stands alone");
        for (Field field : ShingleBank.class.getDeclaredFields()) {
            need(field.getName().equals("NONE") || Modifier.isPrivate(field.getModifiers()), "not private: " + field.getName());
        }
    }

    private static void inside() {
        Class<?>[] all = ShingleBank.class.getDeclaredClasses();
        need(all.length <= 11, "classes inside: " + all.length);
        Set<String> publicNames = new TreeSet<>();
        for (Method method : ShingleBank.class.getDeclaredMethods()) {
            if (Modifier.isPublic(method.getModifiers())) {
                publicNames.add(method.getName());
            }
        }
        List<Class<?>> classes = new ArrayList<>(List.of(all));
        for (Class<?> one : all) {
            need(Modifier.isStatic(one.getModifiers()), "not static: " + one);
            for (Method method : one.getDeclaredMethods()) {
                need(!publicNames.contains(method.getName()), "bears the name of a public one: " + method);
            }
        }
        classes.add(ShingleBank.class);
        for (Class<?> one : classes) {
            int fields = 0;
            for (Field field : one.getDeclaredFields()) {
                if (Modifier.isStatic(field.getModifiers())) {
                    need(Modifier.isFinal(field.getModifiers()), "static, not final: " + field);
                } else {
                    fields++;
                }
            }
            need(fields <= 20, "fields of " + one + ": " + fields);
            for (Method method : one.getDeclaredMethods()) {
                boolean own = one != ShingleBank.class || !method.getName().equals("says");
                need(!own || method.getParameterCount() <= 7, "parameters of " + method);
                need(Modifier.isPrivate(method.getModifiers()) || one != ShingleBank.class || Modifier.isPublic(method.getModifiers()), "open: " + method);
            }
        }
    }

    private static void words(String source) {
        String bare = source.replaceAll("(?s)/\\*.*?\\*/", "").replaceAll("//[^\n]*", "");
        for (String barred : BARRED) {
            Matcher m = Pattern.compile(barred).matcher(bare);
            need(!m.find(), "stands in the source: " + barred);
        }
        for (String line : bare.split("\n")) {
            need(!line.startsWith("import ") || IMPORTS.contains(line), line);
        }
        for (int i = 0; i < source.length(); i++) {
            need(source.charAt(i) == '\n' || source.charAt(i) >= ' ' && source.charAt(i) <= '~', "a sign at " + i);
        }
    }

    private static void methods(String source) {
        String[] lines = source.split("\n");
        int begun = -1;
        String indent = "";
        for (int i = 0; i < lines.length; i++) {
            Matcher m = Pattern.compile("^( {4}| {8})(?! )[\\w\\[\\]<> ]+\\([^;]*\\)[\\w, ]* \\{$").matcher(lines[i]);
            if (begun < 0 && m.find()) {
                begun = i;
                indent = m.group(1);
            } else if (begun >= 0 && lines[i].equals(indent + "}")) {
                need(i - begun <= 60, "a method of " + (i - begun) + " lines: " + lines[begun]);
                begun = -1;
            }
        }
    }
}
