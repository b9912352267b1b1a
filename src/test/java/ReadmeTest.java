import java.lang.reflect.Method;
import java.lang.reflect.Modifier;
import java.nio.file.Files;
import java.nio.file.Path;
import java.util.Arrays;
import java.util.regex.Matcher;
import java.util.regex.Pattern;

/** README.md says how to use the class: its example answers what it says, and it names every call. */
final class ReadmeTest {
    private static final Pattern EXAMPLE = Pattern.compile("(?s)```java\n(.*?)```");
    private static final Pattern LETTERS = Pattern.compile("\"([^\"]*)\"\\.toCharArray");
    private static final Pattern CALL = Pattern.compile("(?m)^x\\.(\\w+)\\(([-\\d, ]*)\\);\\s*// (-?\\d+): ");
    private static final Check check = new Check();

    public static void main(String[] args) throws Exception {
        check.promise("README.md");
        String text = Files.readString(Path.of("README.md"));
        example(text);
        names(text);
        check.finish();
    }

    private static void example(String text) throws Exception {
        Matcher block = EXAMPLE.matcher(text);
        Matcher letters = LETTERS.matcher(text);
        if (!block.find() || !letters.find()) {
            check.tell("there is no example");
            return;
        }
        SoManyForgotten x = new SoManyForgotten();
        Check.letters(x, letters.group(1));
        long lines = block.group(1).lines().filter(line -> line.startsWith("x.")).count();
        long calls = 0;
        for (Matcher call = CALL.matcher(block.group(1)); call.find(); calls++) {
            check.due(call.group(1) + "(" + call.group(2) + ")",
                answer(x, call.group(1), call.group(2)), Long.parseLong(call.group(3)));
        }
        check.due("the calls of the example with an answer", calls, lines);
    }

    private static long answer(SoManyForgotten x, String name, String numbers) throws Exception {
        Object[] arguments = numbers.isEmpty() ? new Object[0]
            : Arrays.stream(numbers.split(", ")).map(Integer::valueOf).toArray();
        Class<?>[] types = new Class<?>[arguments.length];
        Arrays.fill(types, int.class);
        return ((Number) SoManyForgotten.class.getMethod(name, types).invoke(x, arguments)).longValue();
    }

    private static void names(String text) {
        for (Method m : SoManyForgotten.class.getDeclaredMethods()) {
            if (Modifier.isPublic(m.getModifiers()) && !text.contains("`" + m.getName() + "`")) {
                check.tell("it does not name " + m.getName());
            }
        }
    }
}
