import java.io.IOException;
import java.lang.reflect.InvocationTargetException;
import java.lang.reflect.Method;
import java.nio.file.Files;
import java.nio.file.Path;
import java.util.regex.Matcher;
import java.util.regex.Pattern;

/** README.md's examples: each line 'house.call(..);  // answer ..' answers what README.md says. */
public final class ReadmeTest {
    private static final Pattern LINE = Pattern.compile("house\\.(\\w+)\\((.*?)\\);\\s*// (-?\\d+|true|false|throws)\\b.*");

    public static void main(String[] args) throws IOException, ReflectiveOperationException {
        ThreadHouse house = null;
        int calls = 0;
        boolean code = false;
        for (String line : Files.readAllLines(Path.of("README.md"))) {
            code = line.equals("```java") || code && !line.equals("```");
            if (!code) {
                continue;
            }
            if (line.contains("new ThreadHouse()")) {
                house = new ThreadHouse();
            }
            Matcher matcher = LINE.matcher(line);
            boolean isCall = line.startsWith("house.");
            Check.same("README.md's line is understood: " + line, matcher.matches(), isCall);
            if (isCall && matcher.matches()) {
                calls++;
                Check.same(line, answer(house, matcher.group(1), matcher.group(2)), due(matcher.group(3)));
            }
        }
        Check.same("README.md has examples", calls > 0, true);
        Check.finish();
    }

    private static long due(String told) {
        switch (told) {
            case "true": return 1;
            case "false": return 0;
            case "throws": return Long.MIN_VALUE;
            default: return Long.parseLong(told);
        }
    }

    private static long answer(ThreadHouse house, String name, String told) throws ReflectiveOperationException {
        String[] words = told.isBlank() ? new String[0] : told.split(", *");
        Object[] numbers = new Object[words.length];
        Class<?>[] types = new Class<?>[words.length];
        for (int i = 0; i < words.length; i++) {
            boolean hex = words[i].startsWith("0x");
            numbers[i] = hex ? Integer.parseUnsignedInt(words[i].substring(2), 16) : Integer.parseInt(words[i]);
            types[i] = int.class;
        }
        Method method = ThreadHouse.class.getMethod(name, types);
        try {
            Object answer = method.invoke(house, numbers);
            return answer instanceof Boolean ? ((Boolean) answer ? 1 : 0) : ((Number) answer).longValue();
        } catch (InvocationTargetException e) {
            return Long.MIN_VALUE;
        }
    }
}
