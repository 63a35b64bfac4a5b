import java.io.IOException;
import java.lang.reflect.Constructor;
import java.lang.reflect.Field;
import java.lang.reflect.Method;
import java.lang.reflect.Modifier;
import java.nio.file.Files;
import java.nio.file.Path;
import java.util.Arrays;
import java.util.Set;
import java.util.TreeSet;
import java.util.regex.Matcher;
import java.util.regex.Pattern;

/** The face of the class is the document's and no more; the text keeps to the plainest rules of LANGUAGE.md. */
public final class FaceTest {
    private static final String SOURCE = "src/main/java/NumberRiver.java";
    private static final int MOST_METHOD_LINES = 60;
    private static int wrong = 0;

    private static final String[] METHODS = {
        "int series(int)", "int label(int, int, int)", "int match(int, int, int, int, int)",
        "int put(int, int, long)", "int fill(int, int, int, long, long, int)", "int merge(int)",
        "int thin(int, int, int)", "int drop(int, int)", "int block(int, int, int)",
        "long head(int, int, int)", "int at(int, int, int)", "int tear(int, int, int, int)",
        "int cost(int, int, int)", "long point(int, int, int, int)", "long late(int, int, int)",
        "long span(int, int, int)", "int count(int, int, int)", "long sum(int, int, int)",
        "long least(int, int, int, boolean)", "long rise(int, int, int)", "long level(int, int, int, long)",
        "long value(int, int, int, boolean)", "long group(int, int, int, int, int)", "int scan(int)",
        "int about(int, int)"};
    private static final String[] CONSTANTS = {"int NONE", "int BAD", "int KIND", "int STATE", "int FULL", "long NO"};

    private static void check(boolean holds, String what) {
        if (!holds) {
            wrong++;
            System.out.println("face: " + what);
        }
    }

    public static void main(String[] args) throws IOException {
        check(Modifier.isPublic(NumberRiver.class.getModifiers()), "the class is not public");
        check(Modifier.isFinal(NumberRiver.class.getModifiers()), "the class is not final");
        check(shownMethods().equals(new TreeSet<>(Arrays.asList(METHODS))), "methods are " + shownMethods());
        check(shownFields().equals(new TreeSet<>(Arrays.asList(CONSTANTS))), "constants are " + shownFields());
        checkConstructors();
        checkInside();
        checkText(Files.readString(Path.of(SOURCE)));
        System.out.println(wrong == 0 ? "face: as the document has it" : "face: " + wrong + " faults");
        if (wrong != 0) {
            System.exit(1);
        }
    }

    private static Set<String> shownMethods() {
        Set<String> shown = new TreeSet<>();
        for (Method m : NumberRiver.class.getDeclaredMethods()) {
            if (!Modifier.isPrivate(m.getModifiers()) && !m.isSynthetic()) {
                String types = Arrays.toString(m.getParameterTypes()).replace("[", "(").replace("]", ")");
                shown.add(m.getReturnType() + " " + m.getName() + types);
                check(m.getModifiers() == Modifier.PUBLIC, m.getName() + " is not plainly public");
            }
        }
        return shown;
    }

    private static Set<String> shownFields() {
        Set<String> shown = new TreeSet<>();
        for (Field f : NumberRiver.class.getDeclaredFields()) {
            int how = f.getModifiers();
            if (!Modifier.isPrivate(how)) {
                shown.add(f.getType() + " " + f.getName());
                check(how == (Modifier.PUBLIC | Modifier.STATIC | Modifier.FINAL), f.getName() + " is no public constant");
            }
            check(!Modifier.isStatic(how) || Modifier.isFinal(how), f.getName() + " is static and not final");
        }
        return shown;
    }

    private static void checkConstructors() {
        Constructor<?>[] made = NumberRiver.class.getDeclaredConstructors();
        check(made.length == 1 && made[0].getParameterCount() == 0 && Modifier.isPublic(made[0].getModifiers()),
            "the constructor is not the document's");
    }

    private static void checkInside() {
        Set<String> names = new TreeSet<>();
        for (String m : METHODS) {
            names.add(m.substring(m.indexOf(' ') + 1, m.indexOf('(')));
        }
        Class<?>[] inside = NumberRiver.class.getDeclaredClasses();
        check(inside.length <= 11, inside.length + " classes inside");
        for (Class<?> c : inside) {
            check(Modifier.isStatic(c.getModifiers()), c + " is not static");
            check(c.getDeclaredFields().length <= 20, c + " has many fields");
            for (Method m : c.getDeclaredMethods()) {
                check(!names.contains(m.getName()), c + " has a method " + m.getName() + ", as the face has");
                check(m.getParameterCount() <= 7, m + " takes many parameters");
            }
        }
    }

    private static void checkText(String text) {
        String code = text.replaceAll("(?s)/\\*.*?\\*/", "").replaceAll("//.*", "");
        Matcher barred = Pattern.compile("\\b(throw|throws|try|catch|synchronized|assert|double|float|\\w+Exact)\\b|->|::").matcher(code);
        while (barred.find()) {
            check(false, "the text has " + barred.group());
        }
        Matcher brought = Pattern.compile("import ([\\w.]+);").matcher(code);
        while (brought.find()) {
            check(brought.group(1).equals("java.util.Arrays"), "imports " + brought.group(1));
        }
        checkLengths(code.split("\n", -1));
    }

    /** A method ends at a closing brace as far in as its first line. */
    private static void checkLengths(String[] lines) {
        for (int i = 0; i < lines.length; i++) {
            if (!lines[i].matches("    (    )?[a-zA-Z].*\\) \\{")) {
                continue;
            }
            String end = lines[i].startsWith("        ") ? "        }" : "    }";
            int j = i;
            while (j < lines.length && !lines[j].equals(end)) {
                j++;
            }
            check(j - i < MOST_METHOD_LINES, "a long method: " + lines[i].trim());
        }
    }
}
