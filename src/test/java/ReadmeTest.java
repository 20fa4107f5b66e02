import java.lang.reflect.Method;
import java.nio.charset.StandardCharsets;
import java.nio.file.Files;
import java.nio.file.Path;
import java.util.regex.Matcher;
import java.util.regex.Pattern;

/** The calls that README.md shows, one behind the other on one object, and that it names every call. */
public final class ReadmeTest {
    private static final Check CHECK = new Check("readme");
    private static final Pattern CALL = Pattern.compile("^x\\.(\\w+)\\((.*)\\); +// (-?\\d+)(:.*)?$");

    private static int number(String text) {
        return text.startsWith("0b") ? Integer.parseInt(text.substring(2), 2) : Integer.decode(text);
    }

    private static long answer(BrokenBread x, String name, String args) throws ReflectiveOperationException {
        String[] texts = args.isEmpty() ? new String[0] : args.split(", ");
        Object[] numbers = new Object[texts.length];
        Class<?>[] types = new Class<?>[texts.length];
        for (int k = 0; k < texts.length; k++) {
            numbers[k] = number(texts[k]);
            types[k] = int.class;
        }
        return ((Number) BrokenBread.class.getMethod(name, types).invoke(x, numbers)).longValue();
    }

    public static void main(String[] args) throws Exception {
        String readme = Files.readString(Path.of("README.md"), StandardCharsets.UTF_8);
        BrokenBread x = new BrokenBread();
        int calls = 0;
        for (String line : readme.split("\n")) {
            Matcher call = CALL.matcher(line);
            CHECK.isSo("understood: " + line, call.matches() || !line.startsWith("x."));
            if (call.matches()) {
                calls++;
                CHECK.due(line, answer(x, call.group(1), call.group(2)), Long.parseLong(call.group(3)));
            }
        }
        CHECK.isSo("calls are shown", calls > 0);
        for (Method m : BrokenBread.class.getDeclaredMethods()) {
            if (java.lang.reflect.Modifier.isPublic(m.getModifiers())) {
                CHECK.isSo("README names " + m.getName(), readme.contains("`" + m.getName() + "`"));
            }
        }
        CHECK.close();
    }
}
