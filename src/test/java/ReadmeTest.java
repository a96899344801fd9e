import java.io.IOException;
import java.lang.reflect.InvocationTargetException;
import java.lang.reflect.Method;
import java.nio.charset.StandardCharsets;
import java.nio.file.Files;
import java.nio.file.Path;
import java.util.Arrays;
import java.util.regex.Matcher;
import java.util.regex.Pattern;

/** The example of README.md: its text is fed, and each of its calls must answer what the comment behind it says. */
final class ReadmeTest {
    private static final Pattern TEXT = Pattern.compile("\"((?:[^\"\\\\]|\\\\[rn])*)\"");
    private static final Pattern CALL = Pattern.compile("mail\\.(\\w+)\\(([-0-9, ]*)\\); +// ('.'|-?\\d+)[ :]?.*");
    private static final Checks CHECKS = new Checks();

    private ReadmeTest() {
    }

    public static void main(String[] args) throws IOException, ReflectiveOperationException {
        String example = example();
        MailTree mail = Mail.fed(textOf(example));
        int calls = 0;
        for (String line : example.split("\n")) {
            Matcher call = CALL.matcher(line);
            if (call.matches()) {
                calls++;
                CHECKS.same(line, answer(mail, call.group(1), call.group(2)), due(call.group(3)));
            }
        }
        CHECKS.same("calls found in the example", calls > 10, true);
        CHECKS.end();
    }

    private static String example() throws IOException {
        String readme = Files.readString(Path.of("README.md"), StandardCharsets.ISO_8859_1);
        int begin = readme.indexOf("```java");
        return readme.substring(begin, readme.indexOf("```\n", begin));
    }

    private static String textOf(String example) {
        StringBuilder b = new StringBuilder();
        Matcher piece = TEXT.matcher(example);
        while (piece.find()) {
            b.append(piece.group(1).replace("\\r", "\r").replace("\\n", "\n"));
        }
        return b.toString();
    }

    private static Object answer(MailTree mail, String name, String numbers)
            throws IllegalAccessException, InvocationTargetException {
        Object[] arguments = numbers.isEmpty() ? new Object[0]
                : Arrays.stream(numbers.split(", ")).map(Integer::valueOf).toArray();
        for (Method m : MailTree.class.getMethods()) {
            if (m.getName().equals(name) && m.getParameterCount() == arguments.length) {
                return m.invoke(mail, arguments);
            }
        }
        return "no such method";
    }

    private static Object due(String comment) {
        return comment.charAt(0) == '\'' ? (Object) (int) comment.charAt(1) : Integer.valueOf(comment);
    }
}
