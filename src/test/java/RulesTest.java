import java.io.IOException;
import java.nio.file.Files;
import java.nio.file.Path;
import java.util.List;
import java.util.regex.Matcher;
import java.util.regex.Pattern;

/**
 * Rules of ../shared/LANGUAGE.md that can be seen in the lines of MatchHall.java. It counts on the
 * layout of that file: a method begins and ends at the same indent.
 */
public final class RulesTest {
    private static final Path MAIN = Path.of("src/main/java/MatchHall.java");
    private static final Pattern HEAD = Pattern.compile("( +)(?:(?:public|private|static) )*[\\w\\[\\]]+ (\\w+)\\(([^()]*)\\).* \\{");
    private static final int MOST_LINES = 60;
    private static final int MOST_PARAMETERS = 7;

    private static final String[] NOT_ALLOWED = {
        "->", "::", "\\bfinally\\b", "\\bsynchronized\\b", "\\bassert\\b", "\\bstatic \\{", "Exact\\(",
        "\\bequals\\(", "\\bhashCode\\b", "\\btoString\\b", "\\bprotected\\b", "\\bpackage\\b",
    };

    private static int methods = 0;

    public static void main(String[] args) throws IOException {
        Due.under("MatchHall.java");
        List<String> lines = Files.readAllLines(MAIN);
        for (int i = 0; i < lines.size(); i++) {
            lineKeepsTheRules(lines.get(i), i + 1);
            methodKeepsTheRules(lines, i);
        }
        Due.is("methods were seen", methods > 22 ? 1 : 0, 1);
        Due.end();
    }

    private static void lineKeepsTheRules(String line, int number) {
        if (line.startsWith("import ")) {
            Due.is("line " + number, line, "import java.util.Arrays;");
        }
        for (String word : NOT_ALLOWED) {
            if (Pattern.compile(word).matcher(codeOf(line)).find()) {
                Due.fail("line " + number + " has " + word);
            }
        }
    }

    /** A line without its comment. */
    private static String codeOf(String line) {
        boolean isComment = line.strip().startsWith("*") || line.strip().startsWith("/*");
        return isComment ? "" : line.replaceFirst("//.*", "");
    }

    private static void methodKeepsTheRules(List<String> lines, int first) {
        Matcher head = HEAD.matcher(codeOf(lines.get(first)));
        if (!head.matches()) {
            return;
        }
        methods++;
        String name = head.group(2);
        boolean isStatic = head.group().contains(" static ");
        Pattern itself = Pattern.compile("(^|[^.\\w])" + name + "\\(");
        int end = first + 1;
        while (end < lines.size() && !lines.get(end).equals(head.group(1) + "}")) {
            if (!isStatic && itself.matcher(codeOf(lines.get(end))).find()) {
                Due.fail("rule 8: " + name + " calls itself, and is not static");
            }
            end++;
        }
        if (end - first + 1 > MOST_LINES) {
            Due.fail("rule 11: " + name + " is too long");
        }
        if (head.group(3).split(",").length > MOST_PARAMETERS) {
            Due.fail("rule 11: " + name + " has too many parameters");
        }
    }
}
