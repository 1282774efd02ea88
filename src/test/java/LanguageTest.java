import java.nio.file.Files;
import java.nio.file.Path;
import java.util.Map;
import java.util.Set;
import java.util.TreeMap;
import java.util.TreeSet;
import java.util.regex.Matcher;
import java.util.regex.Pattern;

/** What of LANGUAGE.md can be seen from the source's words alone. It is run in the project's folder. */
public final class LanguageTest {
    public static void main(String[] args) throws Exception {
        Check check = new Check();
        String whole = Files.readString(Path.of("src/main/java/ShapeJudge.java"));
        String bare = whole.replaceAll("(?s)/\\*.*?\\*/", " ").replaceAll("//[^\n]*", " ")
            .replaceAll("'.'", "' '").replaceAll("\"[^\"]*\"", "\"\"");
        String[] words = {
            "throw", "throws", "try", "catch", "finally", "synchronized", "assert", "package", "import", "var", "yield",
            "volatile", "transient", "native", "protected", "Object", "System", "Thread", "Random", "record", "enum",
            "toString", "hashCode", "equals", "ArrayList", "List", "Arrays", "instanceof", "double", "float"
        };
        for (String word : words) {
            check.holds("the word " + word + " is not used", !Pattern.compile("\\b" + word + "\\b").matcher(bare).find());
        }
        check.holds("no lambda, no method reference", !bare.contains("->") && !bare.contains("::"));
        check.holds("ASCII alone", whole.chars().allMatch(c -> c < 128));
        lookAtStatics(check, bare);
        lookAtLengths(check, bare);
        lookAtCalls(check, bare);
        check.finish("LanguageTest");
    }

    private static void lookAtStatics(Check check, String bare) {
        Matcher statics = Pattern.compile("\\bstatic\\b[^;{(]*[=;]").matcher(bare);
        while (statics.find()) {
            check.holds("final: " + statics.group(), statics.group().contains(" final "));
        }
        check.holds("no static block", !Pattern.compile("\\bstatic\\s*\\{").matcher(bare).find());
        int others = 0;
        for (String line : bare.split("\n")) {
            others += line.matches(".*\\bnew\\b.*") && !line.contains(" final ") ? 1 : 0;
        }
        // All calls share one room, so that no call may make anything: the six rows of the object
        // and the reader's tokens are made in constructors.
        check.holds("nothing is made but in constructors and for final fields: " + others, others == 7);
    }

    /** Methods stand at four or eight blanks and end with a brace there. */
    private static void lookAtLengths(Check check, String bare) {
        int begun = 0;
        String[] lines = bare.split("\n");
        for (int i = 0; i < lines.length; i++) {
            if (lines[i].matches(" {4}( {4})?[a-zA-Z].*\\) \\{") && !lines[i].contains(" class ")) {
                begun = i;
            }
            if (lines[i].matches(" {4}( {4})?\\}")) {
                check.holds("a short method at line " + (begun + 1), i - begun < 60 || begun == 0
                    || lines[i].length() == 5);
            }
        }
    }

    /** No method calls itself by any way, and calls go at most eight deep; methods of one name count as one. */
    private static void lookAtCalls(Check check, String bare) {
        Map<String, Set<String>> calls = new TreeMap<>();
        Pattern header = Pattern.compile("( {4}| {8})(?:[\\w\\[\\]]+ )+(\\w+)\\(.*\\) \\{");
        String method = "";
        for (String line : bare.split("\n")) {
            Matcher begin = header.matcher(line);
            if (begin.matches()) {
                method = begin.group(2);
                calls.putIfAbsent(method, new TreeSet<>());
            } else if (!method.isEmpty()) {
                Matcher call = Pattern.compile("\\b(\\w+)\\(").matcher(line);
                while (call.find()) {
                    calls.get(method).add(call.group(1));
                }
            }
        }
        check.holds("methods were found: " + calls.size(), calls.size() > 60);
        for (String first : calls.keySet()) {
            int depth = depthOf(first, calls, 0);
            check.holds(first + " calls " + depth + " deep", depth <= 8);
        }
    }

    private static int depthOf(String method, Map<String, Set<String>> calls, int above) {
        int below = 0;
        if (above <= 8) {
            for (String called : calls.get(method)) {
                below = Math.max(below, calls.containsKey(called) ? depthOf(called, calls, above + 1) : 0);
            }
        }
        return below + 1;
    }
}
