import java.lang.reflect.Method;
import java.nio.file.Files;
import java.nio.file.Path;
import java.util.List;
import java.util.regex.Matcher;
import java.util.regex.Pattern;

/** The example of README.md: each call there answers what stands behind it. */
public final class ReadmeTest {
    private static final Pattern TYPED = Pattern.compile("\"([^\"]*)\"\\.toCharArray\\(\\)");
    private static final Pattern CALL = Pattern.compile("hat\\.(\\w+)\\(([^)]*)\\);\\s*// (-?\\d+)(:.*)?");
    private static final Checks checks = new Checks();

    public static void main(String[] args) throws ReflectiveOperationException, java.io.IOException {
        HatNames hat = new HatNames();
        List<String> lines = Files.readAllLines(Path.of("README.md"));
        for (String line : lines.subList(lines.indexOf("```java") + 1, lines.lastIndexOf("```"))) {
            Matcher typed = TYPED.matcher(line);
            Matcher call = CALL.matcher(line);
            if (typed.find()) {
                Checks.type(hat, typed.group(1));
            } else if (call.matches()) {
                long got = answer(hat, call.group(1), call.group(2));
                checks.due("README: " + line, got, Long.parseLong(call.group(3)));
            } else {
                checks.holds("README, a line that is read: " + line, isFrame(line));
            }
        }
        checks.end("ReadmeTest");
    }

    /** What stands around the calls: the object made, and the loop that types. */
    private static boolean isFrame(String line) {
        return line.equals("HatNames hat = new HatNames();") || line.equals("    hat.letter(letter);")
                || line.equals("}");
    }

    private static long answer(HatNames hat, String name, String list) throws ReflectiveOperationException {
        String[] texts = list.isEmpty() ? new String[0] : list.split(", ");
        Object[] values = new Object[texts.length];
        for (int at = 0; at < texts.length; at++) {
            values[at] = texts[at].matches("true|false") ? (Object) Boolean.valueOf(texts[at])
                    : (Object) Integer.valueOf(texts[at]);
        }
        for (Method method : HatNames.class.getMethods()) {
            if (method.getName().equals(name) && method.getParameterCount() == values.length) {
                return ((Number) method.invoke(hat, values)).longValue();
            }
        }
        throw new NoSuchMethodException(name);
    }
}
