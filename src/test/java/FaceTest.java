import java.lang.reflect.Constructor;
import java.lang.reflect.Field;
import java.lang.reflect.Method;
import java.lang.reflect.Modifier;
import java.nio.file.Files;
import java.nio.file.Path;
import java.util.Arrays;
import java.util.Set;
import java.util.TreeSet;
import java.util.regex.Matcher;
import java.util.regex.Pattern;
import java.util.stream.Collectors;

/** The public face as the document has it, and the rules of LANGUAGE.md that a look can tell. */
final class FaceTest {
    private static final String[] FACE = {
        "int back(int)", "int bring(int)", "int clear()", "int cold(int)", "int count(int)", "int envy(int)",
        "int fewest(int, int)", "int goes(int)", "int gone(int)", "int hill()", "int image()", "int judge()",
        "int knownThen(int, int)", "int largest(int)", "int league(int)", "int least(int)", "int letter(int)",
        "int lots(int, int, int)", "int memory(int, int)", "int memoryThen(int, int, int)", "int names(int)",
        "int next(int)", "int on()", "int owes(int, int)", "int person(int, int)", "int power(int, int)",
        "int recalls(int, int, int)", "int row(int)", "int save(int)", "int speak(int)", "int speaks(int, int)",
        "int turn(int, int, int)", "int two(int, int, int)", "int valley()", "int voids(int)", "int weeks(int)",
        "int whatIs(int, int, int)", "long feast(int, int, int, int)", "long mean(int)"
    };
    private static final String[] RULED_OUT = {
        "throw", "throws", "try", "catch", "finally", "synchronized", "assert", "import", "package", "protected",
        "volatile", "transient", "native", "var", "yield", "Object", "Override", "System.out", "hashCode",
        "toString", "Random", "Thread"
    };
    private static int wrong = 0;

    public static void main(String[] args) throws Exception {
        face();
        inside();
        if (args.length > 0) {
            source(Files.readString(Path.of(args[0])));
        }
        if (wrong != 0) {
            System.exit(1);
        }
    }

    private static void must(boolean so, String what) {
        if (!so) {
            wrong++;
            System.out.println("not so: " + what);
        }
    }

    private static String shown(Method m) {
        return m.getReturnType() + " " + m.getName() + Arrays.stream(m.getParameterTypes())
            .map(Class::getName).collect(Collectors.joining(", ", "(", ")"));
    }

    private static void face() {
        Class<?> c = SoManyForgotten.class;
        must(Modifier.isPublic(c.getModifiers()) && Modifier.isFinal(c.getModifiers()), "the class is public and final");
        Set<String> open = new TreeSet<>();
        Set<String> openNames = new TreeSet<>();
        for (Method m : c.getDeclaredMethods()) {
            if (Modifier.isPublic(m.getModifiers())) {
                open.add(shown(m));
                openNames.add(m.getName());
            }
        }
        must(open.equals(new TreeSet<>(Arrays.asList(FACE))), "the public methods are those of the document, not " + open);
        for (Method m : c.getDeclaredMethods()) {
            must(Modifier.isPublic(m.getModifiers()) || Modifier.isPrivate(m.getModifiers()), m + " is public or private");
            must(!Modifier.isPrivate(m.getModifiers()) || !openNames.contains(m.getName()), m + " has a name of its own");
        }
        for (Constructor<?> k : c.getDeclaredConstructors()) {
            must(Modifier.isPublic(k.getModifiers()) && k.getParameterCount() == 0, k + " is the document's");
        }
        for (Field f : c.getDeclaredFields()) {
            must(Modifier.isPrivate(f.getModifiers()), f + " is private");
        }
    }

    private static void inside() {
        Class<?>[] classes = SoManyForgotten.class.getDeclaredClasses();
        must(classes.length + 1 <= 12, "there are at most twelve classes");
        for (Class<?> c : classes) {
            must(Modifier.isStatic(c.getModifiers()), c + " is static");
            must(!Modifier.isPublic(c.getModifiers()) && !Modifier.isProtected(c.getModifiers()), c + " is not public");
            fields(c);
            for (Method m : c.getDeclaredMethods()) {
                must(m.getParameterCount() <= 7, m + " takes at most seven");
            }
        }
        fields(SoManyForgotten.class);
    }

    private static void fields(Class<?> c) {
        int own = 0;
        for (Field f : c.getDeclaredFields()) {
            if (Modifier.isStatic(f.getModifiers())) {
                must(Modifier.isFinal(f.getModifiers()), f + " is final");
                must(f.getType().isPrimitive() || f.getType() == String.class, f + " is a constant");
            } else {
                own++;
            }
        }
        must(own <= 20, c + " has at most twenty fields");
    }

    private static void source(String text) {
        String code = text.replaceAll("(?s)/\\*.*?\\*/", " ").replaceAll("//[^\n]*", " ");
        for (String word : RULED_OUT) {
            Matcher m = Pattern.compile("\\b" + Pattern.quote(word) + "\\b").matcher(code);
            must(!m.find(), "no " + word + " in the class");
        }
        must(!code.contains("Exact("), "no call that throws by itself");
        must(!code.contains("->") && !code.contains("::"), "no lambda and no method reference");
        must(!code.contains("float") && !code.contains("double"), "no fraction but by whole numbers");
        must(text.chars().allMatch(c -> c == '\n' || c >= 32 && c < 127), "the file has plain signs alone");
    }
}
