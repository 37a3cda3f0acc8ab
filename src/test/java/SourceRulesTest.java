import java.io.IOException;
import java.nio.file.Files;
import java.nio.file.Path;
import java.util.regex.Matcher;
import java.util.regex.Pattern;

/** The rules of LANGUAGE.md that can be seen in the letters of the source. */
public final class SourceRulesTest {
    private static final String[] FORBIDDEN = {
        "throw", "throws", "try", "catch", "finally", "synchronized", "assert", "import", "package", "protected",
        "native", "volatile", "Thread", "System\\.(?!arraycopy)", "equals", "hashCode", "toString", "Random", "Object"
    };
    private static final String[] FORBIDDEN_MARKS = {"->", "::", "\"", "@", "float", "double"};
    private static final int LONGEST_METHOD = 60;
    private static final int MOST_PARAMETERS = 7;
    private static final int MOST_CLASSES = 12;

    public static void main(String[] args) throws IOException {
        Check check = new Check("SourceRulesTest");
        String source = Files.readString(Path.of("src/main/java/TannedMen.java"));
        check.holds("signs 10, 32 to 126 alone", source.chars().allMatch(c -> c == 10 || c >= 32 && c < 127));
        String code = source.replaceAll("(?s)/\\*.*?\\*/", "").replaceAll("//[^\n]*", "");
        for (String word : FORBIDDEN) {
            check.holds("no '" + word + "'", !Pattern.compile("\\b" + word + (word.endsWith(")") ? "" : "\\b")).matcher(code).find());
        }
        for (String mark : FORBIDDEN_MARKS) {
            check.holds("no '" + mark + "'", !code.contains(mark));
        }
        classes(check, code);
        methods(check, code);
        staticFields(check, code);
        check.end();
    }

    private static void classes(Check check, String code) {
        Matcher matcher = Pattern.compile("(?m)^(.*)\\bclass (\\w+)").matcher(code);
        int classes = 0;
        while (matcher.find()) {
            classes++;
            String ahead = matcher.group(1).trim();
            String due = matcher.group(2).equals("TannedMen") ? "public final" : "private static final";
            check.holds(matcher.group(2) + " is " + due, ahead.equals(due));
        }
        check.holds("classes: " + classes, classes > 0 && classes <= MOST_CLASSES);
    }

    private static void methods(Check check, String code) {
        String[] lines = code.split("\n");
        int start = -1;
        String end = "";
        for (int i = 0; i < lines.length; i++) {
            if (start < 0 && lines[i].matches("^ {4,8}[\\w\\[\\] ]+\\([^()]*\\) \\{$") && !lines[i].matches("^ *(if|for|while|switch) .*")) {
                start = i;
                end = lines[i].replaceAll("\\S.*", "") + "}";
                int parameters = lines[i].split(",").length;
                check.holds("parameters:" + lines[i], parameters <= MOST_PARAMETERS);
            } else if (start >= 0 && lines[i].equals(end)) {
                check.holds("lines:" + lines[start], i - start < LONGEST_METHOD);
                start = -1;
            }
        }
        check.holds("every method has its end", start < 0);
    }

    private static void staticFields(Check check, String code) {
        Matcher matcher = Pattern.compile("(?m)^(.*\\bstatic\\b.*);$").matcher(code);
        while (matcher.find()) {
            check.holds("a constant: " + matcher.group(1), matcher.group(1).matches(".*\\bstatic final int \\w+ = .*"));
        }
    }
}
