import java.io.IOException;
import java.nio.file.Files;
import java.nio.file.Path;
import java.util.regex.Matcher;
import java.util.regex.Pattern;

/** What of ../shared/LANGUAGE.md can be seen in the text of the program: run where src stands. */
public final class RulesTest {
    private static final String PUBLIC = "feed|forge|told|label|labelSign|write|sign|source|sourceAt|octet|put|register|set|port|out"
        + "|request|step|run|outs|clear";

    public static void main(String[] args) throws IOException {
        String text = Files.readString(Path.of("src/main/java/OpcodeForge.java"));
        String code = text.replaceAll("(?s)/\\*.*?\\*/", "").replaceAll("//[^\n]*", "").replaceAll("'(\\\\.|[^'\\\\])'", "' '")
            .replaceAll("\"(\\\\.|[^\"\\\\])*\"", "\"\"");
        none(code, "rule 1", "\\bprotected\\b|\\bpackage\\b");
        many(code, "rule 1", "(?m)^    public ", 21);
        none(code, "rule 1", "(?m)^    (?!public|private|/|\\*|@|}| )\\S");
        none(code, "rule 1", "(?m)^        (?!return)[^;=\n]*\\b(" + PUBLIC + ")\\([^;]*\\{");
        none(code, "rule 2", "->|::|\\bnew \\w+\\([^)]*\\) *\\{|(?m)^    (private )?(final )?class");
        none(code, "rule 4", "\\bimport (?!java\\.util\\.Arrays;)|\\bjava\\.(?!util\\.Arrays;)");
        none(code, "rule 4", "\\b(Math\\.(?!min|max|abs)|Integer\\.(?!bitCount)|Arrays\\.(?!fill)|System|Long\\.|Character|Byte|Short)");
        none(code, "rule 5", "\\bstatic (?!final|[\\w\\[\\]]+ \\w+\\()");
        none(code, "rule 6", "\\b(throw|throws|try|catch|synchronized|assert|instanceof)\\b");
        none(code, "rule 10", "\"\" *\\+|\\+ *\"\"");
        none(code, "rule 11", "(?s)\\((?:[^(){};]*,){7}[^(){};]*\\) \\{");
        none(text, "rule 4", "[^\n\\x20-\\x7E]");
        Check.same("rule 11: classes", count(code, "\\bclass\\b") <= 13 ? 1 : 0, 1);
        methodsAreShort(code);
        Check.end("RulesTest");
    }

    private static void none(String code, String rule, String pattern) {
        Matcher matcher = Pattern.compile(pattern).matcher(code);
        Check.same(rule, matcher.find() ? matcher.group() : "", "");
    }

    private static void many(String code, String rule, String pattern, int due) {
        Check.same(rule, count(code, pattern), due);
    }

    private static int count(String code, String pattern) {
        int count = 0;
        Matcher matcher = Pattern.compile(pattern).matcher(code);
        while (matcher.find()) {
            count++;
        }
        return count;
    }

    private static void methodsAreShort(String code) {
        for (String indent : new String[] {"    ", "        "}) {
            Matcher matcher = Pattern.compile("(?ms)^" + indent + "(?! )[^\n;=]*\\)[^\n]* \\{$.*?^" + indent + "\\}$").matcher(code);
            int found = 0;
            while (matcher.find()) {
                int lines = matcher.group().split("\n").length;
                Check.same("rule 11: " + matcher.group().split("\n")[0].trim() + " is short", lines <= 60 ? 1 : 0, 1);
                found++;
            }
            Check.same("methods were found", found > 15 ? 1 : 0, 1);
        }
    }
}
