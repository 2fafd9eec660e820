import java.io.IOException;
import java.nio.file.Files;
import java.nio.file.Path;
import java.util.ArrayList;
import java.util.List;
import java.util.Map;
import java.util.Set;
import java.util.TreeMap;
import java.util.TreeSet;
import java.util.regex.Matcher;
import java.util.regex.Pattern;

/** What of LANGUAGE.md can be seen in the text of the class; FaceTest has what reflection shows. */
public final class LanguageTest {
    private static final Check CHECK = new Check("LanguageTest");

    /** Patterns that may not be found outside comments and texts, each with its rule. */
    private static final String[][] BANNED = {
        {"3", "\\bdouble\\b|\\bfloat\\b|\\bObject\\b|\\bMap\\b|\\bSet\\b|\\bLong\\b"},
        {"2", "->|::"},
        {"4", "\\w+Exact\\b"},
        {"6", "\\bfinally\\b|\\bcatch\\b|\\bsynchronized\\b|\\bassert\\b|\\bextends\\b|getMessage|\\bhashCode\\b|\\btoString\\b"},
        {"13", "\\bSystem\\b|\\bRandom\\b|\\bThread\\b|\\bFile\\b|nanoTime|currentTimeMillis"},
        {"10", "\"\"\\s*\\+|\\+\\s*\"\""},
        {"1", "\\bpackage\\b|\\bprotected\\b|\\bpublic\\s+static\\s+(?!final int NONE)"},
    };

    private static final Pattern METHOD = Pattern.compile(
            " {4}(?: {4})?(?:public |private )?(?:static )?[\\w\\[\\]]+ (\\w+)\\(.*\\{");
    private static final Set<String> CONTROL = Set.of("if", "for", "while", "switch", "return");

    public static void main(String[] args) throws IOException {
        String text = Files.readString(Path.of("src/main/java/BridgeStrip.java"));
        CHECK.that(text.chars().allMatch(c -> c == '\n' || c >= 32 && c < 127), "plain signs alone");
        String code = text.replaceAll("(?s)/\\*.*?\\*/", "").replaceAll("//[^\n]*", "")
                .replaceAll("\"[^\"\n]*\"", "\"\"");
        for (String[] rule : BANNED) {
            Matcher m = Pattern.compile(rule[1]).matcher(code);
            while (m.find()) {
                CHECK.that(false, "rule " + rule[0] + ": " + m.group());
            }
            CHECK.that(true, "looked");
        }
        imports(code);
        throwsOnly(code);
        madeOnce(code);
        methods(code);
        depth(code);
        CHECK.end();
    }

    private static void imports(String code) {
        Matcher m = Pattern.compile("import ([\\w.]+);").matcher(code);
        while (m.find()) {
            CHECK.due("imports " + m.group(1), m.group(1).equals("java.util.NoSuchElementException"), true);
        }
    }

    private static void throwsOnly(String code) {
        Matcher m = Pattern.compile("throw ([^;]*);").matcher(code);
        int found = 0;
        while (m.find()) {
            found++;
            CHECK.that(m.group(1).equals("new NoSuchElementException(\"\")"), "throws " + m.group(1));
        }
        CHECK.that(found > 0, "led throws");
    }

    /** Nothing is made but in the fields' own lines, so that no call fills the room. */
    private static void madeOnce(String code) {
        for (String line : code.split("\n")) {
            if (line.contains("new ")) {
                boolean field = line.matches(" {4,8}(private )?(final )?[\\w\\[\\]]+ \\w+ = new .*;");
                CHECK.that(field || line.contains("throw "), "made once: " + line.trim());
            }
        }
    }

    /** Methods of some sixty lines at most. */
    private static void methods(String code) {
        List<Integer> starts = new ArrayList<>();
        String[] lines = code.split("\n");
        for (int i = 0; i < lines.length; i++) {
            if (METHOD.matcher(lines[i]).matches()) {
                starts.add(i);
            }
        }
        CHECK.that(starts.size() > 100, "methods are found: " + starts.size());
        for (int start : starts) {
            String indent = lines[start].substring(0, lines[start].length() - lines[start].stripLeading().length());
            int end = start;
            while (!lines[end].equals(indent + "}")) {
                end++;
            }
            CHECK.that(end - start < 60, "short: " + lines[start].trim());
        }
    }

    /**
     * Rule 11: calls go at most eight deep, the library's own counted. Methods of one name in two
     * classes count as one that calls what both do, so this is never less than what runs.
     */
    private static void depth(String code) {
        Map<String, Set<String>> calls = new TreeMap<>();
        String method = "";
        for (String line : code.split("\n")) {
            Matcher head = METHOD.matcher(line);
            if (head.matches()) {
                method = head.group(1);
                calls.putIfAbsent(method, new TreeSet<>());
                continue;
            }
            Matcher call = Pattern.compile("(\\w+)\\(").matcher(line);
            while (call.find() && !method.isEmpty()) {
                if (!CONTROL.contains(call.group(1))) {
                    calls.get(method).add(call.group(1));
                }
            }
        }
        CHECK.that(calls.containsKey("book") && calls.get("use").contains("isName"), "calls are found");
        for (String name : calls.keySet()) {
            List<String> way = deepest(name, calls, Set.of(name));
            CHECK.that(way.size() <= 8, "at most eight deep: " + way);
        }
    }

    private static List<String> deepest(String name, Map<String, Set<String>> calls, Set<String> open) {
        List<String> way = new ArrayList<>();
        for (String called : calls.getOrDefault(name, Set.of())) {
            if (!open.contains(called)) {
                Set<String> more = new TreeSet<>(open);
                more.add(called);
                List<String> further = deepest(called, calls, more);
                way = further.size() > way.size() ? further : way;
            }
        }
        way.add(0, name);
        return way;
    }
}
