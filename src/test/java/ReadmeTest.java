import java.io.IOException;
import java.lang.reflect.Method;
import java.lang.reflect.Modifier;
import java.nio.file.Files;
import java.nio.file.Path;
import java.util.List;
import java.util.regex.Matcher;
import java.util.regex.Pattern;

/** README.md tells the truth: its rows answer what stands beside them, and it names every call. */
public final class ReadmeTest {
    private static final Pattern CALL = Pattern.compile("world\\.(\\w+)\\(([-0-9, ]*)\\);\\s*// (-?\\d+): .*");
    private static final Pattern TEXT = Pattern.compile("for \\(char sign : \"([^\"]*)\"\\.toCharArray\\(\\)\\) \\{");
    private static int wrong;

    private static void check(boolean good, String text) {
        if (!good) {
            wrong++;
            System.out.println(text);
        }
    }

    private static long ask(StoneRound world, String name, String inside) throws ReflectiveOperationException {
        String[] texts = inside.isEmpty() ? new String[0] : inside.split(", *");
        Object[] arguments = new Object[texts.length];
        Class<?>[] types = new Class<?>[texts.length];
        for (int i = 0; i < texts.length; i++) {
            arguments[i] = Integer.valueOf(texts[i]);
            types[i] = int.class;
        }
        return ((Number) StoneRound.class.getMethod(name, types).invoke(world, arguments)).longValue();
    }

    private static int runRows(List<String> rows) throws ReflectiveOperationException {
        StoneRound world = new StoneRound();
        int asked = 0;
        for (String row : rows) {
            Matcher text = TEXT.matcher(row.trim());
            Matcher call = CALL.matcher(row.trim());
            if (text.matches()) {
                for (char sign : text.group(1).toCharArray()) {
                    world.say(sign);
                }
            } else if (call.matches()) {
                asked++;
                long got = ask(world, call.group(1), call.group(2));
                check(got == Long.parseLong(call.group(3)), row + ", but the answer is " + got);
            }
        }
        return asked;
    }

    public static void main(String[] args) throws IOException, ReflectiveOperationException {
        String readme = Files.readString(Path.of("README.md"));
        int begin = readme.indexOf("```java\n");
        int end = readme.indexOf("```", begin + 3);
        check(begin >= 0 && end > begin, "README.md has no rows of Java");
        if (begin >= 0 && end > begin) {
            check(runRows(readme.substring(begin, end).lines().toList()) >= 10, "README.md has too few rows of Java");
        }
        for (Method m : StoneRound.class.getDeclaredMethods()) {
            check(!Modifier.isPublic(m.getModifiers()) || readme.contains("`" + m.getName() + "`"),
                "README.md does not name " + m.getName());
        }
        check(readme.contains(".ci/run"), "README.md does not say how to run the tests");
        System.out.println(wrong == 0 ? "README.md is true" : wrong + " faults of README.md");
        if (wrong != 0) {
            System.exit(1);
        }
    }
}
