import java.io.IOException;
import java.lang.reflect.InvocationTargetException;
import java.lang.reflect.Method;
import java.nio.file.Files;
import java.nio.file.Path;
import java.util.regex.Matcher;
import java.util.regex.Pattern;

/** Makes the calls of README.md's examples and compares their answers with what stands there behind them. */
public final class ReadmeTest {
    private static final Pattern CALL = Pattern.compile(
            "post\\.(\\w+)\\((.*)\\); +// (true|false|-?\\d+|throws \\w+)(:.*)?");

    public static void main(String[] args) throws IOException {
        boolean inJava = false;
        int examples = 0;
        YamRiders post = null;
        for (String line : Files.readAllLines(Path.of("README.md"))) {
            if (line.startsWith("```")) {
                inJava = line.equals("```java");
            } else if (inJava && line.equals("YamRiders post = new YamRiders();")) {
                post = new YamRiders();
                examples++;
            } else if (inJava) {
                Matcher call = CALL.matcher(line);
                boolean isCall = call.matches() && post != null;
                Check.yes("a call with its answer: " + line, isCall);
                if (isCall) {
                    Check.yes(line, answerOf(post, call.group(1), call.group(2)).equals(call.group(3)));
                }
            }
        }
        Check.yes("examples", examples >= 2);
        Check.finish();
    }

    private static String answerOf(YamRiders post, String name, String list) {
        String[] words = list.isEmpty() ? new String[0] : list.split(", ");
        Object[] numbers = new Object[words.length];
        for (int i = 0; i < words.length; i++) {
            numbers[i] = Integer.decode(words[i]);
        }
        for (Method method : YamRiders.class.getMethods()) {
            if (method.getName().equals(name) && method.getParameterCount() == words.length) {
                return answerOf(post, method, numbers);
            }
        }
        return "no such call";
    }

    private static String answerOf(YamRiders post, Method method, Object[] numbers) {
        try {
            return String.valueOf(method.invoke(post, numbers));
        } catch (InvocationTargetException e) {
            return "throws " + e.getCause().getClass().getSimpleName();
        } catch (IllegalAccessException e) {
            return "not public";
        }
    }
}
