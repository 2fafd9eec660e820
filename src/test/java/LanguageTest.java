import java.io.IOException;
import java.nio.file.Files;
import java.nio.file.Path;
import java.util.ArrayList;
import java.util.List;
import java.util.regex.Matcher;
import java.util.regex.Pattern;

/** What of LANGUAGE.md can be seen in the text of the class; FaceTest has what reflection shows. */
public final class LanguageTest {
    private static final Check CHECK = new Check("LanguageTest");

    /** Patterns that may not be found outside comments and texts, each with its rule. */
    private static final String[][] BANNED = {
        {"3", "\\bdouble\\b|\\bfloat\\b|\\bObject\\b|\\bMap\\b|\\bSet\\b|\\bLong\\b"},
        {"2", "->|::"},
        {"4", "\\w+Exact\\b"},
        {"6", "\\bfinally\\b|\\bcatch\\b|\\bsynchronized\\b|\\bassert\\b|\\bextends\\b|getMessage|\\bhashCode\\b|\\btoString\\b"},
        {"13", "\\bSystem\\b|\\bRandom\\b|\\bThread\\b|\\bFile\\b|nanoTime|currentTimeMillis"},
        {"10", "\"\"\\s*\\+|\\+\\s*\"\""},
        {"1", "\\bpackage\\b|\\bprotected\\b|\\bpublic\\s+static\\s+(?!final int NONE)"},
    };

    public static void main(String[] args) throws IOException {
        String text = Files.readString(Path.of("src/main/java/BridgeStrip.java"));
        CHECK.that(text.chars().allMatch(c -> c == '\n' || c >= 32 && c < 127), "plain signs alone");
        String code = text.replaceAll("(?s)/\\*.*?\\*/", "").replaceAll("//[^\n]*", "")
                .replaceAll("\"[^\"\n]*\"", "\"\"");
        for (String[] rule : BANNED) {
            Matcher m = Pattern.compile(rule[1]).matcher(code);
            while (m.find()) {
                CHECK.that(false, "rule " + rule[0] + ": " + m.group());
            }
            CHECK.that(true, "looked");
        }
        imports(code);
        throwsOnly(code);
        madeOnce(code);
        methods(code);
        CHECK.end();
    }

    private static void imports(String code) {
        Matcher m = Pattern.compile("import ([\\w.]+);").matcher(code);
        while (m.find()) {
            CHECK.due("imports " + m.group(1), m.group(1).equals("java.util.NoSuchElementException"), true);
        }
    }

    private static void throwsOnly(String code) {
        Matcher m = Pattern.compile("throw ([^;]*);").matcher(code);
        int found = 0;
        while (m.find()) {
            found++;
            CHECK.that(m.group(1).equals("new NoSuchElementException(\"\")"), "throws " + m.group(1));
        }
        CHECK.that(found > 0, "led throws");
    }

    /** Nothing is made but in the fields' own lines, so that no call fills the room. */
    private static void madeOnce(String code) {
        for (String line : code.split("\n")) {
            if (line.contains("new ")) {
                boolean field = line.matches(" {4,8}(private )?(final )?[\\w\\[\\]]+ \\w+ = new .*;");
                CHECK.that(field || line.contains("throw "), "made once: " + line.trim());
            }
        }
    }

    /** Methods of some sixty lines at most. */
    private static void methods(String code) {
        List<Integer> starts = new ArrayList<>();
        String[] lines = code.split("\n");
        for (int i = 0; i < lines.length; i++) {
            if (lines[i].matches(" {4}( {4})?(public |private )?(static )?[\\w\\[\\]]+ \\w+\\(.*\\{")) {
                starts.add(i);
            }
        }
        CHECK.that(starts.size() > 100, "methods are found: " + starts.size());
        for (int start : starts) {
            String indent = lines[start].substring(0, lines[start].length() - lines[start].stripLeading().length());
            int end = start;
            while (!lines[end].equals(indent + "}")) {
                end++;
            }
            CHECK.that(end - start < 60, "short: " + lines[start].trim());
        }
    }
}
