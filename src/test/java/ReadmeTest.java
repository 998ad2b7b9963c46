import java.io.IOException;
import java.lang.reflect.Field;
import java.lang.reflect.Method;
import java.lang.reflect.Modifier;
import java.nio.file.Files;
import java.nio.file.Path;
import java.util.ArrayList;
import java.util.List;
import java.util.Set;
import java.util.TreeSet;
import java.util.regex.Matcher;
import java.util.regex.Pattern;

/** What README.md says of the class's answers is what the class answers. */
public final class ReadmeTest {
    private static final Pattern BLOCK = Pattern.compile("(?s)```java\n(EnclosureCalculator x = .*?)```");
    private static final Pattern TEXT = Pattern.compile("typeText\\(x, \"(.*)\"\\);");
    private static final Pattern CALL = Pattern.compile("x\\.(\\w+)\\(([^)]*)\\);(?: +// ([-\\w]+)(?::.*)?)?");
    private static final Pattern CALL_ROW = Pattern.compile("(?m)^\\| `(\\w+)\\(([^)]*)\\)` \\|");
    private static final Pattern ANSWER_ROW = Pattern.compile("(?m)^\\| `(\\w+)` \\| (-?\\d+) \\|");

    public static void main(String[] args) throws IOException, ReflectiveOperationException {
        Check check = new Check();
        String readme = Files.readString(Path.of("README.md"));
        exampleHolds(check, readme);
        everyCallHasItsRow(check, readme);
        everyAnswerHasItsRow(check, readme);
        everyTestIsNamed(check, readme);
        check.end("ReadmeTest");
    }

    private static void exampleHolds(Check check, String readme) throws ReflectiveOperationException {
        Matcher block = BLOCK.matcher(readme);
        check.due("README.md has an example", block.find(), true);
        EnclosureCalculator x = null;
        for (String line : block.group(1).split("\n")) {
            Matcher text = TEXT.matcher(line);
            Matcher call = CALL.matcher(line);
            if (line.equals("EnclosureCalculator x = new EnclosureCalculator();")) {
                x = new EnclosureCalculator();
            } else if (text.matches()) {
                Check.typeText(x, text.group(1));
            } else if (call.matches()) {
                lineHolds(check, x, call);
            } else {
                check.due("a line that no one can check: " + line, line.isEmpty(), true);
            }
        }
    }

    private static void lineHolds(Check check, EnclosureCalculator x, Matcher call) throws ReflectiveOperationException {
        Method method = methodNamed(call.group(1));
        Object got = method.invoke(x, arguments(call.group(2)));
        check.due(call.group() + " tells an answer", call.group(3) != null, method.getReturnType() != void.class);
        if (call.group(3) != null && got != null) {
            check.due(call.group(), number(got), told(call.group(3)));
        }
    }

    private static Object[] arguments(String list) {
        List<Object> found = new ArrayList<>();
        for (String argument : list.split(", ")) {
            if (argument.startsWith("'")) {
                found.add((int) argument.charAt(1));
            } else if (!argument.isEmpty()) {
                found.add(Integer.parseInt(argument));
            }
        }
        return found.toArray();
    }

    private static long number(Object answer) {
        return answer instanceof Boolean ? ((Boolean) answer ? 1 : 0) : ((Number) answer).longValue();
    }

    private static long told(String word) throws ReflectiveOperationException {
        if (word.equals("true") || word.equals("false")) {
            return word.equals("true") ? 1 : 0;
        }
        return word.matches("-?\\d+") ? Long.parseLong(word) : EnclosureCalculator.class.getField(word).getInt(null);
    }

    private static Method methodNamed(String name) {
        for (Method method : EnclosureCalculator.class.getDeclaredMethods()) {
            if (Modifier.isPublic(method.getModifiers()) && method.getName().equals(name)) {
                return method;
            }
        }
        throw new IllegalArgumentException("README.md has a call that the class has not: " + name);
    }

    private static void everyCallHasItsRow(Check check, String readme) {
        Set<String> told = new TreeSet<>();
        Matcher row = CALL_ROW.matcher(readme);
        while (row.find()) {
            int parameters = row.group(2).isEmpty() ? 0 : row.group(2).split(",").length;
            told.add(row.group(1) + " " + parameters);
        }
        Set<String> there = new TreeSet<>();
        for (Method method : EnclosureCalculator.class.getDeclaredMethods()) {
            if (Modifier.isPublic(method.getModifiers())) {
                there.add(method.getName() + " " + method.getParameterCount());
            }
        }
        check.due("README.md tells the calls " + told + " of " + there, told.equals(there), true);
    }

    private static void everyAnswerHasItsRow(Check check, String readme) throws ReflectiveOperationException {
        Set<String> told = new TreeSet<>();
        Matcher row = ANSWER_ROW.matcher(readme);
        while (row.find()) {
            told.add(row.group(1) + " " + row.group(2));
        }
        Set<String> there = new TreeSet<>();
        for (Field field : EnclosureCalculator.class.getFields()) {
            there.add(field.getName() + " " + field.getInt(null));
        }
        check.due("README.md tells the answers " + told + " of " + there, told.equals(there), true);
    }

    private static void everyTestIsNamed(Check check, String readme) throws IOException {
        try (var files = Files.list(Path.of("src/test/java"))) {
            for (Path file : (Iterable<Path>) files::iterator) {
                String name = file.getFileName().toString().replace(".java", "");
                boolean named = name.startsWith("Promise") || readme.contains("`" + name + "`");
                check.due("README.md names " + name, named || !name.endsWith("Test"), true);
            }
        }
    }
}
