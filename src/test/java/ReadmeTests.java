import java.io.IOException;
import java.lang.reflect.Field;
import java.lang.reflect.Method;
import java.lang.reflect.Modifier;
import java.nio.file.Files;
import java.nio.file.Path;
import java.util.regex.Matcher;
import java.util.regex.Pattern;

/** README.md tells the truth: the calls of its example answer what stands behind them, and the whole face is named. */
public final class ReadmeTests extends Checks {
    private static final Pattern EXAMPLE = Pattern.compile("(?s)```java\n(.*?)```");
    private static final Pattern CALL = Pattern.compile("x\\.(\\w+)\\((.*?)\\); *// (-?\\w+):.*");
    private static final String MADE = "PairGrammars x = new PairGrammars();";

    private static void example(String readme) throws ReflectiveOperationException {
        Matcher example = EXAMPLE.matcher(readme);
        due("an example", example.find() ? 1 : 0, 1);
        String[] lines = example.group(1).split("\n");
        due("the first line of the example", lines[0], MADE);
        PairGrammars x = new PairGrammars();
        for (int line = 1; line < lines.length; line++) {
            Matcher call = CALL.matcher(lines[line]);
            due("'" + lines[line] + "' is a call and its answer", call.matches() ? 1 : 0, 1);
            due(lines[line], answer(x, call.group(1), call.group(2)), number(call.group(3)));
        }
    }

    private static long answer(PairGrammars x, String name, String given) throws ReflectiveOperationException {
        String[] numbers = given.isEmpty() ? new String[0] : given.split(", *");
        Method method = method(name);
        Object[] arguments = new Object[numbers.length];
        for (int i = 0; i < numbers.length; i++) {
            // put() alone takes a long, and reflection wants to be given just what is taken.
            boolean wide = method.getParameterTypes()[i] == long.class;
            arguments[i] = wide ? (Object) number(numbers[i]) : (Object) (int) number(numbers[i]);
        }
        return ((Number) method.invoke(x, arguments)).longValue();
    }

    private static Method method(String name) throws NoSuchMethodException {
        for (Method method : PairGrammars.class.getDeclaredMethods()) {
            if (method.getName().equals(name) && Modifier.isPublic(method.getModifiers())) {
                return method;
            }
        }
        throw new NoSuchMethodException(name);
    }

    /** What a number or a constant of the class is, as it is written in a program. */
    private static long number(String written) throws ReflectiveOperationException {
        String name = written.replace("PairGrammars.", "");
        return name.matches("[A-Z_]+") ? PairGrammars.class.getField(name).getInt(null) : Long.decode(name.replaceAll("L$", ""));
    }

    private static void names(String readme) throws ReflectiveOperationException {
        for (Method method : PairGrammars.class.getDeclaredMethods()) {
            if (Modifier.isPublic(method.getModifiers())) {
                String call = "`" + method.getName() + "\\(" + (method.getParameterCount() == 0 ? "\\)" : "\\w+(, \\w+)?\\)") + "`";
                due(call + " is named", Pattern.compile(call).matcher(readme).find() ? 1 : 0, 1);
            }
        }
        for (Field constant : PairGrammars.class.getFields()) {
            String named = "`" + constant.getName() + "` (" + constant.getInt(null) + ")";
            due(named + " is named", readme.contains(named) ? 1 : 0, 1);
        }
    }

    private static void tests(String readme) throws IOException {
        try (var files = Files.list(Path.of("src/test/java"))) {
            files.map(Path::getFileName).map(Path::toString)
                .forEach(name -> due(name + " is named", readme.contains(name) ? 1 : 0, 1));
        }
    }

    public static void main(String[] args) throws IOException, ReflectiveOperationException {
        about("README.md");
        String readme = Files.readString(Path.of("README.md"));
        example(readme);
        names(readme);
        tests(readme);
        close("README.md");
    }
}
