import java.io.IOException;
import java.lang.reflect.InvocationTargetException;
import java.lang.reflect.Method;
import java.lang.reflect.Modifier;
import java.nio.file.Files;
import java.nio.file.Path;
import java.util.ArrayList;
import java.util.HashMap;
import java.util.List;
import java.util.Map;
import java.util.TreeSet;
import java.util.regex.Matcher;
import java.util.regex.Pattern;

/** README.md tells the truth: its example answers as written there, and its table names every call. */
final class ReadmeTest {
    private static final Pattern MADE = Pattern.compile("HouseFunctions house = new HouseFunctions\\((-?\\d+)L\\);");
    private static final Pattern ASKED = Pattern.compile(
            "house\\.(\\w+)\\(([^)]*)\\); +// (throws \\w+|NONE|-?\\d+)(:.*)?");
    private static final Pattern TOLD = Pattern.compile("\\| `(new HouseFunctions|\\w+ \\w+)\\(([^)]*)\\)` \\|.*");
    private static final Check CHECK = new Check();
    private static final Map<String, Method> FACE = new HashMap<>();

    public static void main(String[] args) throws IOException, ReflectiveOperationException {
        for (Method method : HouseFunctions.class.getDeclaredMethods()) {
            if (Modifier.isPublic(method.getModifiers())) {
                FACE.put(method.getName(), method);
            }
        }
        List<String> lines = Files.readAllLines(Path.of("README.md"));
        tableNamesEveryCall(lines);
        exampleIsRight(lines);
        CHECK.end();
    }

    private static void tableNamesEveryCall(List<String> lines) {
        CHECK.sentence("README.md: each method of the public face");
        TreeSet<String> told = new TreeSet<>();
        for (String line : lines) {
            Matcher row = TOLD.matcher(line);
            if (row.matches()) {
                told.add(row.group(1) + "(" + row.group(2).replaceAll("(\\w+) \\w+", "$1") + ")");
            }
        }
        TreeSet<String> face = new TreeSet<>();
        face.add("new HouseFunctions(long)");
        for (Method method : FACE.values()) {
            List<String> types = new ArrayList<>();
            for (Class<?> type : method.getParameterTypes()) {
                types.add(type.getName());
            }
            face.add(method.getReturnType() + " " + method.getName() + "(" + String.join(", ", types) + ")");
        }
        CHECK.due("README's table", told.toString(), face.toString());
    }

    private static void exampleIsRight(List<String> lines) throws ReflectiveOperationException {
        CHECK.sentence("README.md: the example");
        HouseFunctions house = null;
        TreeSet<String> asked = new TreeSet<>();
        for (String line : lines) {
            Matcher made = MADE.matcher(line);
            Matcher call = ASKED.matcher(line);
            if (made.matches()) {
                house = new HouseFunctions(Long.parseLong(made.group(1)));
            } else if (call.matches() && house != null) {
                asked.add(call.group(1));
                CHECK.due(line, answerOf(house, call.group(1), call.group(2)), call.group(3));
            } else if (line.startsWith("house.")) {
                CHECK.dueTrue("a line that can be asked: " + line, false);
            }
        }
        CHECK.due("the calls in README's example", asked.toString(), new TreeSet<>(FACE.keySet()).toString());
    }

    private static String answerOf(HouseFunctions house, String name, String given) throws ReflectiveOperationException {
        Method method = FACE.get(name);
        if (method == null) {
            return "no such call";
        }
        try {
            long answer = ((Number) method.invoke(house, numbersFrom(given, method.getParameterTypes()))).longValue();
            return answer == HouseFunctions.NONE ? "NONE" : Long.toString(answer);
        } catch (InvocationTargetException thrown) {
            return "throws " + thrown.getCause().getClass().getSimpleName();
        }
    }

    private static Object[] numbersFrom(String given, Class<?>[] types) {
        String[] texts = given.isEmpty() ? new String[0] : given.split(", ");
        Object[] numbers = new Object[texts.length];
        for (int i = 0; i < texts.length; i++) {
            boolean isLong = i < types.length && types[i] == long.class;
            numbers[i] = isLong ? (Object) Long.valueOf(texts[i].replace("L", "")) : Integer.valueOf(texts[i]);
        }
        return numbers;
    }
}
