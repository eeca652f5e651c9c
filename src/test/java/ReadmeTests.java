import java.lang.reflect.InvocationTargetException;
import java.lang.reflect.Method;
import java.lang.reflect.Modifier;
import java.nio.file.Files;
import java.nio.file.Path;
import java.util.List;
import java.util.regex.Matcher;
import java.util.regex.Pattern;

/** The examples of README.md: behind each call a comment begins with what it answers, or throws. */
final class ReadmeTests {
    private static final Pattern CALL = Pattern.compile(
            "stripes\\.(\\w+)\\(([^)]*)\\);\\s*// (-?\\d+|\\w+Exception)\\b.*");
    private static final Pattern TYPED = Pattern.compile(
            "for \\(char sign : \"(.*)\"\\.toCharArray\\(\\)\\) \\{");

    private final Tally tally;
    private StripeSwipes stripes = new StripeSwipes();
    private boolean inExample = false;
    private int calls = 0;

    private ReadmeTests(Tally tally) {
        this.tally = tally;
    }

    static void run(Tally tally) throws Exception {
        List<String> lines = Files.readAllLines(Path.of("README.md"));
        ReadmeTests tests = new ReadmeTests(tally);
        for (String line : lines) {
            tests.follow(line.trim());
        }
        tally.is("README: there are examples", tests.calls > 0, true);
        String text = String.join("\n", lines);
        for (Method method : StripeSwipes.class.getDeclaredMethods()) {
            if (Modifier.isPublic(method.getModifiers())) {
                tally.is("README tells of " + method.getName(), text.contains("`" + method.getName() + "`"), true);
            }
        }
    }

    private void follow(String line) throws Exception {
        if (line.startsWith("```")) {
            inExample = line.equals("```java");
            return;
        }
        if (!inExample || line.isEmpty() || line.equals("}")) {
            return;
        }
        Matcher call = CALL.matcher(line);
        Matcher typed = TYPED.matcher(line);
        if (line.equals("StripeSwipes stripes = new StripeSwipes();")) {
            stripes = new StripeSwipes();
        } else if (typed.matches()) {
            Rows.type(stripes, typed.group(1));
        } else if (call.matches()) {
            calls++;
            tally.is("README: " + line, told(call.group(1), call.group(2)), call.group(3));
        } else {
            tally.is("README: a call with its answer", line, "stripes.append(sign);");
        }
    }

    private String told(String name, String arguments) throws Exception {
        String[] texts = arguments.isEmpty() ? new String[0] : arguments.split(", ");
        for (Method method : StripeSwipes.class.getDeclaredMethods()) {
            if (Modifier.isPublic(method.getModifiers()) && method.getName().equals(name)
                    && method.getParameterCount() == texts.length) {
                return answer(method, texts);
            }
        }
        return "there is no such call";
    }

    private String answer(Method method, String[] texts) throws Exception {
        Object[] values = new Object[texts.length];
        for (int i = 0; i < texts.length; i++) {
            values[i] = value(texts[i]);
        }
        try {
            return String.valueOf(method.invoke(stripes, values));
        } catch (InvocationTargetException e) {
            return e.getCause().getClass().getSimpleName();
        }
    }

    private static Object value(String text) {
        if (text.startsWith("'")) {
            return (int) text.charAt(1);
        }
        if (text.equals("true") || text.equals("false")) {
            return text.equals("true");
        }
        return Integer.parseInt(text);
    }
}
