import java.io.IOException;
import java.lang.reflect.InvocationTargetException;
import java.lang.reflect.Method;
import java.lang.reflect.Modifier;
import java.nio.file.Files;
import java.nio.file.Path;
import java.util.Arrays;
import java.util.Set;
import java.util.TreeSet;
import java.util.regex.Matcher;
import java.util.regex.Pattern;

/** What README.md shows is so: its examples answer as they say, and its table has each call of the face once. */
public final class ReadmeTest extends Checks {
    private static final String BEGIN = "PastBets x = new PastBets();";
    private static final Pattern TYPED = Pattern.compile("for \\(char c : \"(.*)\"\\.toCharArray\\(\\)\\) x\\.type\\(c\\);");
    private static final Pattern CALL = Pattern.compile("x\\.(\\w+)\\((.*?)\\); +// (-?\\d+)(: .*)?");
    private static final Pattern ROW = Pattern.compile("\\| `(\\w+)\\((.*?)\\)` \\|.*");

    private static PastBets x;

    public static void main(String[] args) throws IOException, ReflectiveOperationException {
        Set<String> rows = new TreeSet<>();
        int examples = 0;
        boolean inside = false;
        for (String line : Files.readAllLines(Path.of("README.md"))) {
            Matcher row = ROW.matcher(line);
            if (line.startsWith("```")) {
                inside = line.equals("```java");
                examples += inside ? 1 : 0;
            } else if (inside) {
                ask(line);
            } else if (row.matches()) {
                must("a row once: " + row.group(1), rows.add(row.group(1) + numbersOf(row.group(2)).length));
            }
        }
        must("there are examples", examples > 0);
        must("the table has each call: " + rows, rows.equals(face()));
        finish("ReadmeTest");
    }

    private static Set<String> face() {
        Set<String> names = new TreeSet<>();
        for (Method m : PastBets.class.getDeclaredMethods()) {
            if (Modifier.isPublic(m.getModifiers())) {
                names.add(m.getName() + m.getParameterCount());
            }
        }
        return names;
    }

    private static void ask(String line) throws IllegalAccessException, InvocationTargetException {
        Matcher typed = TYPED.matcher(line);
        Matcher call = CALL.matcher(line);
        if (line.equals(BEGIN)) {
            x = new PastBets();
        } else if (typed.matches()) {
            typed.group(1).chars().forEach(c -> x.type(c));
        } else if (call.matches()) {
            due(line, answer(call.group(1), numbersOf(call.group(2))), Long.parseLong(call.group(3)));
        } else {
            must("a line that can be asked: " + line, false);
        }
    }

    private static String[] numbersOf(String list) {
        return list.isEmpty() ? new String[0] : list.split(", ");
    }

    private static long answer(String name, String[] numbers) throws IllegalAccessException, InvocationTargetException {
        for (Method m : PastBets.class.getDeclaredMethods()) {
            if (m.getName().equals(name) && m.getParameterCount() == numbers.length) {
                Object[] given = Arrays.stream(numbers).map(ReadmeTest::numberOf).toArray();
                return ((Number) m.invoke(x, given)).longValue();
            }
        }
        must("there is a call " + name, false);
        return 0;
    }

    private static Integer numberOf(String text) {
        return text.equals("PastBets.NONE") ? Integer.valueOf(NONE) : Integer.valueOf(text);
    }
}
