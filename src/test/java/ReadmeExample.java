import java.io.IOException;
import java.nio.file.Files;
import java.nio.file.Path;
import java.util.regex.Matcher;
import java.util.regex.Pattern;

/**
 * Prints a program made of README.md's example: its lines as they stand there, each call held
 * against the answer that the remark behind it begins with.
 */
public final class ReadmeExample {
    private static final Pattern MAKING = Pattern.compile("NumberRiver river = new NumberRiver\\(\\);");
    private static final Pattern CALL = Pattern.compile("(int (\\w+) = )?(river\\.\\w+\\([^;]*\\));\\s*// (-?\\d+|NO): .*");

    public static void main(String[] args) throws IOException {
        String text = Files.readString(Path.of("README.md"));
        int from = text.indexOf("```java\n") + "```java\n".length();
        String example = text.substring(from, text.indexOf("```", from));
        System.out.println("public final class ReadmeRun {");
        System.out.println("    private static int wrong = 0;");
        System.out.println("    private static void due(String call, long got, long want) {");
        System.out.println("        if (got != want) { wrong++; System.out.println(\"README: \" + call + \" answered \" + got); }");
        System.out.println("    }");
        System.out.println("    public static void main(String[] args) {");
        for (String line : example.split("\n")) {
            System.out.println("        " + tried(line));
        }
        System.out.println("        System.out.println(\"README: \" + wrong + \" answers are not as told\");");
        System.out.println("        System.exit(wrong == 0 ? 0 : 1);");
        System.out.println("    }");
        System.out.println("}");
    }

    private static String tried(String line) {
        Matcher call = CALL.matcher(line);
        if (!call.matches()) {
            // Only the making of the object has no answer; another line without one is a fault.
            return MAKING.matcher(line).matches() ? line : "due(\"a line without an answer\", 1, 0);";
        }
        String want = call.group(4).equals("NO") ? "NumberRiver.NO" : call.group(4) + "L";
        if (call.group(1) == null) {
            return "due(\"" + call.group(3) + "\", " + call.group(3) + ", " + want + ");";
        }
        return call.group(1) + call.group(3) + "; due(\"" + call.group(3) + "\", " + call.group(2) + ", " + want + ");";
    }
}
