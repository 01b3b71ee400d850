import java.io.IOException;
import java.nio.file.Files;
import java.nio.file.Path;
import java.util.ArrayDeque;
import java.util.ArrayList;
import java.util.Deque;
import java.util.List;
import java.util.Map;
import java.util.Set;
import java.util.TreeMap;
import java.util.TreeSet;
import java.util.regex.Matcher;
import java.util.regex.Pattern;

/** What can be seen in the source of the rules of ../shared/LANGUAGE.md. */
public final class LanguageTest {
    private static final Path SOURCE = Path.of("src/main/java/BottleneckShop.java");
    /** Words and signs that the rules leave out, or that this class does without. */
    private static final String[] LEFT_OUT = {
        "\\bpackage\\b", "\\bimport\\b", "\\bthrow\\b", "\\bthrows\\b", "\\btry\\b", "\\bcatch\\b", "\\bfinally\\b",
        "\\bsynchronized\\b", "\\bassert\\b", "\\binstanceof\\b", "\\bprotected\\b", "\\bvolatile\\b", "\\bnative\\b",
        "->", "::", "@", "\"", "\\bInteger\\b", "\\bLong\\b", "\\bMath\\b", "\\bSystem\\b", "\\bThread\\b", "\\bString\\b",
        "\\bdouble\\b", "\\bfloat\\b", "\\bvar\\b", "\\brecord [A-Z]", "\\bdo\\b",
    };
    private static final int MOST_LINES = 60;
    private static final int MOST_CLASSES = 12;
    private static final int MOST_DEEP = 8;

    private static int wrong = 0;

    private static void tell(String what) {
        wrong++;
        System.out.println(what);
    }

    private static void words(List<String> lines) {
        for (int i = 0; i < lines.size(); i++) {
            for (String each : LEFT_OUT) {
                if (Pattern.compile(each).matcher(lines.get(i)).find()) {
                    tell("line " + (i + 1) + " has " + each + ": " + lines.get(i).trim());
                }
            }
        }
    }

    /** A method or a constructor, with the lines from its head to the brace that ends it. */
    private record Part(String name, int line, List<String> lines) {
        private static final Pattern CALL = Pattern.compile("\\b([a-z][A-Za-z]*)\\(");

        /** The names ahead of an opening bracket in the body: what the source calls, for it has a blank behind if, for, while. */
        Set<String> called() {
            Set<String> names = new TreeSet<>();
            for (String line : lines.subList(1, lines.size())) {
                Matcher call = CALL.matcher(line);
                while (call.find()) {
                    names.add(call.group(1));
                }
            }
            return names;
        }

        boolean privateAndStatic() {
            return lines.get(0).trim().startsWith("private static ");
        }
    }

    private static List<Part> parts(List<String> lines) {
        Pattern begin = Pattern.compile("^ +[a-zA-Z\\[\\] ]*?([a-zA-Z]+)\\([^;=]*\\) \\{$");
        List<Part> parts = new ArrayList<>();
        Deque<Integer> open = new ArrayDeque<>();
        for (int i = 0; i < lines.size(); i++) {
            String line = lines.get(i);
            boolean method = begin.matcher(line).matches() && !line.trim().matches("(if|for|while|switch|else|\\}).*");
            for (char c : line.toCharArray()) {
                if (c == '{') {
                    open.push(method ? i : -1);
                } else if (c == '}') {
                    int from = open.pop();
                    if (from >= 0) {
                        Matcher head = begin.matcher(lines.get(from));
                        parts.add(new Part(head.matches() ? head.group(1) : "", from + 1, lines.subList(from, i + 1)));
                    }
                }
            }
        }
        return parts;
    }

    private static void sizes(List<String> lines, List<Part> parts) {
        int classes = 0;
        for (String line : lines) {
            classes += line.matches(".*\\bclass [A-Z].*\\{") ? 1 : 0;
        }
        for (Part part : parts) {
            if (part.lines.size() > MOST_LINES) {
                tell("the method at line " + part.line + " has " + part.lines.size() + " lines");
            }
        }
        if (classes > MOST_CLASSES || classes < 1 || parts.size() < 25) {
            tell("there are " + classes + " classes and " + parts.size() + " methods");
        }
    }

    /** Rule 8: only a private static method calls itself, and none calls itself through others. Rule 11: how deep calls go. */
    private static void chains(List<Part> parts) {
        // Methods of several classes that share a name count as one that calls what any of them calls.
        Map<String, Set<String>> calls = new TreeMap<>();
        for (Part part : parts) {
            calls.computeIfAbsent(part.name, name -> new TreeSet<>()).addAll(part.called());
        }
        for (Part part : parts) {
            if (part.called().contains(part.name) && !part.privateAndStatic()) {
                tell("the method at line " + part.line + " calls itself and is not private and static");
            }
        }
        int recursions = 0;
        int deepest = 0;
        for (String name : calls.keySet()) {
            calls.get(name).retainAll(calls.keySet());
            recursions += calls.get(name).remove(name) ? 1 : 0;
        }
        for (String name : calls.keySet()) {
            int deep = depth(calls, name, 1);
            deepest = Math.max(deepest, deep);
            if (deep > MOST_DEEP) {
                tell("the calls of " + name + " go " + deep + " deep");
            }
        }
        if (recursions < 1 || deepest < 3) {
            tell("the calls are not read: " + recursions + " methods call themselves, the calls go " + deepest + " deep");
        }
    }

    /** How many methods stand open at the most; of methods that call one another, more than may. */
    private static int depth(Map<String, Set<String>> calls, String name, int open) {
        int deepest = open;
        for (String each : open > MOST_DEEP ? Set.<String>of() : calls.get(name)) {
            deepest = Math.max(deepest, depth(calls, each, open + 1));
        }
        return deepest;
    }

    /** Rows and objects are made with their owner, not by calls. */
    private static void made(List<String> lines) {
        Pattern owner = Pattern.compile("^ +(private )?(static )?final [A-Za-z\\[\\]]+ [a-z][A-Za-z]* = new .*;$");
        Pattern inConstructor = Pattern.compile("^ +(states\\[i\\]|slots\\[slot\\]) = new State\\(\\);$");
        for (int i = 0; i < lines.size(); i++) {
            String line = lines.get(i);
            if (Pattern.compile("\\bnew\\b").matcher(line).find() && !owner.matcher(line).matches()
                    && !inConstructor.matcher(line).matches()) {
                tell("line " + (i + 1) + " makes something: " + line.trim());
            }
        }
    }

    public static void main(String[] args) throws IOException {
        String text = Files.readString(SOURCE);
        for (int i = 0; i < text.length(); i++) {
            if (text.charAt(i) > 126) {
                tell("a sign above 126 at " + i);
            }
        }
        String code = Pattern.compile("/\\*.*?\\*/", Pattern.DOTALL).matcher(text).replaceAll(
                comment -> "\n".repeat((int) comment.group().chars().filter(c -> c == '\n').count()));
        List<String> lines = List.of(code.replaceAll("//[^\n]*", "").replaceAll("[ ]+\n", "\n").split("\n", -1));
        words(lines);
        List<Part> parts = parts(lines);
        sizes(lines, parts);
        chains(parts);
        made(lines);
        System.out.println(wrong == 0 ? "the source keeps to the rules" : wrong + " places do not keep to the rules");
        if (wrong != 0) {
            System.exit(1);
        }
    }
}
