import java.io.IOException;
import java.lang.reflect.Field;
import java.lang.reflect.Method;
import java.lang.reflect.Modifier;
import java.nio.file.Files;
import java.nio.file.Path;
import java.util.ArrayList;
import java.util.HashMap;
import java.util.List;
import java.util.Map;
import java.util.regex.Matcher;
import java.util.regex.Pattern;

/** README.md: its examples are carried out as they stand, and its tables have the whole face. */
public final class ReadmeTest {
    private static final Path README = Path.of("README.md");
    private static final String MAKE = "BottleneckShop shop = new BottleneckShop();";
    private static final Pattern CALL = Pattern.compile(
            "(?:int ([a-z]+) = )?shop\\.([a-zA-Z]+)\\(([^)]*)\\); +// (-?[0-9]+|[A-Z_]+)(?::.*)?");
    private static final int LEAST_EXAMPLES = 30;

    private static int wrong = 0;
    private static final Map<String, Long> NAMED = new HashMap<>();

    private static void tell(String what) {
        wrong++;
        System.out.println(what);
    }

    private static List<String> examples(List<String> lines) {
        List<String> examples = new ArrayList<>();
        boolean inside = false;
        for (String line : lines) {
            if (line.startsWith("```")) {
                inside = line.equals("```java");
            } else if (inside) {
                examples.add(line);
            }
        }
        return examples;
    }

    private static Method named(String name) {
        for (Method method : BottleneckShop.class.getDeclaredMethods()) {
            if (Modifier.isPublic(method.getModifiers()) && method.getName().equals(name)) {
                return method;
            }
        }
        throw new IllegalStateException("there is no call " + name);
    }

    private static long value(String text) throws ReflectiveOperationException {
        if (NAMED.containsKey(text)) {
            return NAMED.get(text);
        }
        if (text.matches("'.'")) {
            return text.charAt(1);
        }
        if (text.matches("[A-Z_]+")) {
            return BottleneckShop.class.getField(text).getInt(null);
        }
        return Long.decode(text.endsWith("L") ? text.substring(0, text.length() - 1) : text);
    }

    private static int answer(BottleneckShop shop, Method method, String given) throws ReflectiveOperationException {
        String[] texts = given.isEmpty() ? new String[0] : given.split(", ");
        Object[] arguments = new Object[texts.length];
        for (int i = 0; i < texts.length; i++) {
            long value = value(texts[i]);
            if (method.getParameterTypes()[i] == long.class) {
                arguments[i] = value;
            } else {
                arguments[i] = Math.toIntExact(value);
            }
        }
        return (int) method.invoke(shop, arguments);
    }

    private static void carryOut(List<String> examples) throws ReflectiveOperationException {
        BottleneckShop shop = null;
        int asked = 0;
        for (String line : examples) {
            Matcher call = CALL.matcher(line);
            if (line.equals(MAKE)) {
                shop = new BottleneckShop();
            } else if (shop == null || !call.matches()) {
                tell("this example cannot be carried out: " + line);
            } else {
                asked++;
                int got = answer(shop, named(call.group(2)), call.group(3));
                if (call.group(1) != null) {
                    NAMED.put(call.group(1), (long) got);
                }
                if (got != value(call.group(4))) {
                    tell("this example answers " + got + ": " + line);
                }
            }
        }
        if (asked < LEAST_EXAMPLES) {
            tell("there are " + asked + " examples");
        }
    }

    private static void tables(String text) throws IllegalAccessException {
        for (Method method : BottleneckShop.class.getDeclaredMethods()) {
            if (Modifier.isPublic(method.getModifiers())) {
                String given = "[a-z]+(, [a-z]+)*".repeat(method.getParameterCount() > 0 ? 1 : 0);
                Matcher row = Pattern.compile("\n\\| `" + method.getName() + "\\((" + given + ")\\)` \\|").matcher(text);
                if (!row.find()) {
                    tell("the table of calls does not have " + method.getName());
                } else if (!given.isEmpty() && row.group(1).split(", ").length != method.getParameterCount()) {
                    tell("the table of calls has other arguments for " + method.getName());
                }
            }
        }
        for (Field field : BottleneckShop.class.getDeclaredFields()) {
            if (Modifier.isPublic(field.getModifiers())
                    && !text.contains("\n| `" + field.getName() + "` | " + field.getInt(null) + " |")) {
                tell("the table of constants does not have " + field.getName());
            }
        }
    }

    public static void main(String[] args) throws IOException, ReflectiveOperationException {
        List<String> lines = Files.readAllLines(README);
        carryOut(examples(lines));
        tables(String.join("\n", lines));
        System.out.println(wrong == 0 ? "the page says what is so" : wrong + " things of the page are not so");
        if (wrong != 0) {
            System.exit(1);
        }
    }
}
