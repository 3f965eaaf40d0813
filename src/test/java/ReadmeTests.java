import java.io.IOException;
import java.lang.reflect.InvocationTargetException;
import java.lang.reflect.Method;
import java.nio.charset.StandardCharsets;
import java.nio.file.Files;
import java.nio.file.Path;
import java.util.regex.Matcher;
import java.util.regex.Pattern;

/** README.md's examples: each line "x.call(..); // answer: .." answers so, one behind the other on one object. */
public final class ReadmeTests {
    private static final Path README = Path.of("README.md");
    private static final Pattern LINE = Pattern.compile("^x\\.(\\w+)\\((.*?)\\); *// ([\\w.-]+)(: .*)?$");

    public static void main(String[] args) throws IOException, IllegalAccessException {
        SmellMap x = new SmellMap();
        int lines = 0;
        boolean inside = false;
        for (String line : Files.readString(README, StandardCharsets.UTF_8).split("\n")) {
            if (line.startsWith("```")) {
                inside = line.equals("```java");
            } else if (inside && line.startsWith("x.")) {
                Matcher m = LINE.matcher(line);
                Check.due("\"" + line + "\" tells its answer", m.matches(), true);
                if (m.matches()) {
                    answers(x, m, line);
                    lines++;
                }
            }
        }
        Check.due("README.md has examples", lines > 20, true);
        Check.close("ReadmeTests");
    }

    private static void answers(SmellMap x, Matcher m, String line) throws IllegalAccessException {
        String[] words = m.group(2).isEmpty() ? new String[0] : m.group(2).split(", ");
        String got = "no such call";
        for (Method method : SmellMap.class.getMethods()) {
            if (method.getName().equals(m.group(1)) && method.getParameterCount() == words.length
                && method.getDeclaringClass() == SmellMap.class) {
                got = called(x, method, words);
            }
        }
        Check.due(line + " answers " + got, got.equals(m.group(3)), true);
    }

    private static String called(SmellMap x, Method method, String[] words) throws IllegalAccessException {
        Object[] values = new Object[words.length];
        for (int i = 0; i < words.length; i++) {
            Class<?> type = method.getParameterTypes()[i];
            if (type == boolean.class) {
                values[i] = words[i].equals("true");
            } else if (type == long.class) {
                values[i] = Long.decode(words[i].replace("L", ""));
            } else {
                values[i] = Long.decode(words[i]).intValue();
            }
        }
        try {
            return String.valueOf(method.invoke(x, values));
        } catch (InvocationTargetException e) {
            return e.getCause().getClass().getSimpleName();
        }
    }

    private ReadmeTests() {
    }
}
