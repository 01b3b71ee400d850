import java.io.IOException;
import java.nio.file.Files;
import java.nio.file.Path;
import java.util.ArrayDeque;
import java.util.Deque;
import java.util.List;
import java.util.regex.Matcher;
import java.util.regex.Pattern;

/** What can be seen in the source of the rules of ../shared/LANGUAGE.md. */
public final class LanguageTest {
    private static final Path SOURCE = Path.of("src/main/java/BottleneckShop.java");
    /** Words and signs that the rules leave out, or that this class does without. */
    private static final String[] LEFT_OUT = {
        "\\bpackage\\b", "\\bimport\\b", "\\bthrow\\b", "\\bthrows\\b", "\\btry\\b", "\\bcatch\\b", "\\bfinally\\b",
        "\\bsynchronized\\b", "\\bassert\\b", "\\binstanceof\\b", "\\bprotected\\b", "\\bvolatile\\b", "\\bnative\\b",
        "->", "::", "@", "\"", "\\bInteger\\b", "\\bLong\\b", "\\bMath\\b", "\\bSystem\\b", "\\bThread\\b", "\\bString\\b",
        "\\bdouble\\b", "\\bfloat\\b", "\\bvar\\b", "\\brecord [A-Z]", "\\bdo\\b",
    };
    private static final int MOST_LINES = 60;
    private static final int MOST_CLASSES = 12;

    private static int wrong = 0;

    private static void tell(String what) {
        wrong++;
        System.out.println(what);
    }

    private static void words(List<String> lines) {
        for (int i = 0; i < lines.size(); i++) {
            for (String each : LEFT_OUT) {
                if (Pattern.compile(each).matcher(lines.get(i)).find()) {
                    tell("line " + (i + 1) + " has " + each + ": " + lines.get(i).trim());
                }
            }
        }
    }

    /** Counts the lines of what stands in braces behind a parameter list, and the classes. */
    private static void sizes(List<String> lines) {
        Pattern begin = Pattern.compile("^ +[a-zA-Z\\[\\] ]+\\([^;=]*\\) \\{$");
        Deque<Integer> open = new ArrayDeque<>();
        int classes = 0;
        int methods = 0;
        for (int i = 0; i < lines.size(); i++) {
            String line = lines.get(i);
            Matcher head = begin.matcher(line);
            boolean method = head.matches() && !line.trim().matches("(if|for|while|switch|else|\\}).*");
            classes += line.matches(".*\\bclass [A-Z].*\\{") ? 1 : 0;
            methods += method ? 1 : 0;
            for (char c : line.toCharArray()) {
                if (c == '{') {
                    open.push(method ? i : -1);
                } else if (c == '}') {
                    int from = open.pop();
                    if (from >= 0 && i - from + 1 > MOST_LINES) {
                        tell("the method at line " + (from + 1) + " has " + (i - from + 1) + " lines");
                    }
                }
            }
        }
        if (classes > MOST_CLASSES || classes < 1 || methods < 25) {
            tell("there are " + classes + " classes and " + methods + " methods");
        }
    }

    /** Rows and objects are made with their owner, not by calls. */
    private static void made(List<String> lines) {
        Pattern owner = Pattern.compile("^ +(private )?(static )?final [A-Za-z\\[\\]]+ [a-z][A-Za-z]* = new .*;$");
        Pattern inConstructor = Pattern.compile("^ +(states\\[i\\]|slots\\[slot\\]) = new State\\(\\);$");
        for (int i = 0; i < lines.size(); i++) {
            String line = lines.get(i);
            if (Pattern.compile("\\bnew\\b").matcher(line).find() && !owner.matcher(line).matches()
                    && !inConstructor.matcher(line).matches()) {
                tell("line " + (i + 1) + " makes something: " + line.trim());
            }
        }
    }

    public static void main(String[] args) throws IOException {
        String text = Files.readString(SOURCE);
        for (int i = 0; i < text.length(); i++) {
            if (text.charAt(i) > 126) {
                tell("a sign above 126 at " + i);
            }
        }
        String code = Pattern.compile("/\\*.*?\\*/", Pattern.DOTALL).matcher(text).replaceAll(
                comment -> "\n".repeat((int) comment.group().chars().filter(c -> c == '\n').count()));
        List<String> lines = List.of(code.replaceAll("//[^\n]*", "").replaceAll("[ ]+\n", "\n").split("\n", -1));
        words(lines);
        sizes(lines);
        made(lines);
        System.out.println(wrong == 0 ? "the source keeps to the rules" : wrong + " places do not keep to the rules");
        if (wrong != 0) {
            System.exit(1);
        }
    }
}
