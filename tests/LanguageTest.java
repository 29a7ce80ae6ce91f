import java.io.IOException;
import java.nio.file.Files;
import java.nio.file.Path;
import java.util.regex.Matcher;
import java.util.regex.Pattern;

/** Words of Java that LANGUAGE.md rules out, sought in the text of the class; run at the project's root. */
public final class LanguageTest {
    private static final String[][] RULED_OUT = {
        {"2", "->"}, {"2", "::"}, {"3", "\\[\\]\\[\\]"},
        {"4", "String\\.format|\\.valueOf|HashMap|Stream|Exact\\("}, {"4", "System\\.(?!arraycopy)"},
        {"5", "static\\s*\\{"}, {"5", "static\\s+(?!final\\b)(int|long|boolean|char|String)(\\[\\])?\\s+\\w+\\s*(=|;)"},
        {"6", "\\b(finally|synchronized|assert|instanceof|record|try|catch|volatile|transient|native)\\b"},
        {"6", "\\b(equals|hashCode|toString)\\s*\\("},
        {"6", "new (?!IllegalStateException|IllegalArgumentException|IndexOutOfBoundsException|NoSuchElementException)\\w*(Exception|Error)"},
        {"10", "\"\\s*\\+|\\+\\s*\""}, {"13", "Random|currentTime|nanoTime|Thread|File"},
    };
    private static int wrong = 0;

    private static void report(String rule, int line, String text) {
        wrong++;
        System.out.println("rule " + rule + ", line " + line + ": " + text.trim());
    }

    public static void main(String[] args) throws IOException {
        String[] lines = Files.readString(Path.of("src/main/java/RestMill.java")).split("\n");
        int head = -1;
        for (int k = 0; k < lines.length; k++) {
            String line = lines[k];
            String code = line.replaceAll("//.*|^\\s*/?\\*.*", "");
            for (int at = 0; at < line.length(); at++) {
                if (line.charAt(at) > 126) {
                    report("3", k + 1, line);
                }
            }
            for (String[] one : RULED_OUT) {
                Matcher found = Pattern.compile(one[1]).matcher(code);
                if (found.find()) {
                    report(one[0], k + 1, line);
                }
            }
            if (code.startsWith("import ") && !code.matches("import java\\.util\\.(Arrays|NoSuchElementException);")) {
                report("4", k + 1, line);
            }
            if (code.matches("\\s+(public|private|static|boolean|int|long|void|float|double).*\\(.*\\{")) {
                head = k;
            }
            if (code.matches(" {4}\\}| {8}\\}") && head >= 0) {
                if (k - head > 60) {
                    report("11", head + 1, lines[head]);
                }
                head = -1;
            }
        }
        System.out.println(wrong == 0 ? "no words that are ruled out" : wrong + " words that are ruled out");
        if (wrong != 0) {
            System.exit(1);
        }
    }
}
