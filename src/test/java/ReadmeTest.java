import java.io.IOException;
import java.lang.reflect.InvocationTargetException;
import java.lang.reflect.Method;
import java.lang.reflect.Modifier;
import java.nio.file.Files;
import java.nio.file.Path;
import java.util.regex.Matcher;
import java.util.regex.Pattern;

/** README.md tells the truth: its example answers what stands beside each call, its table has every call. */
public final class ReadmeTest {
    private static final Pattern CALL = Pattern.compile("x\\.(\\w+)\\(([-0-9, ]*)\\);\\s*// (-?\\w+)(.*)");

    public static void main(String[] args) throws IOException, ReflectiveOperationException {
        String readme = Files.readString(Path.of("README.md"));
        example(between(readme, "```java\n", "```"));
        table(readme);
        Check.ended("ReadmeTest");
    }

    private static String between(String text, String from, String to) {
        int start = text.indexOf(from) + from.length();
        return text.substring(start, text.indexOf(to, start));
    }

    private static void example(String lines) throws ReflectiveOperationException {
        NestCells x = new NestCells();
        int calls = 0;
        for (String line : lines.split("\n")) {
            Matcher call = CALL.matcher(line);
            if (call.matches()) {
                calls++;
                one(x, line, call);
            } else {
                Check.same("a line that is no call", line, "NestCells x = new NestCells();");
            }
        }
        Check.same("the example has calls", calls > 0, true);
    }

    private static void one(NestCells x, String line, Matcher call) throws ReflectiveOperationException {
        Method method = face(call.group(1));
        String told = told(x, method, call.group(2));
        // What stands beside a call without an answer is a text of its own.
        if (method.getReturnType() == int.class || told.startsWith("Illegal")) {
            String due = call.group(3).equals("NONE") ? String.valueOf(NestCells.NONE) : call.group(3);
            Check.same(line, told, due);
        }
    }

    private static Method face(String name) {
        for (Method method : NestCells.class.getDeclaredMethods()) {
            if (Modifier.isPublic(method.getModifiers()) && method.getName().equals(name)) {
                return method;
            }
        }
        throw new IllegalArgumentException("README.md calls what is no call of the class: " + name);
    }

    private static String told(NestCells x, Method method, String arguments) throws ReflectiveOperationException {
        String[] texts = arguments.isEmpty() ? new String[0] : arguments.split(", ");
        Object[] numbers = new Object[texts.length];
        for (int i = 0; i < texts.length; i++) {
            numbers[i] = Integer.valueOf(texts[i]);
        }
        try {
            return String.valueOf(method.invoke(x, numbers));
        } catch (InvocationTargetException e) {
            return e.getCause().getClass().getSimpleName();
        }
    }

    private static void table(String readme) {
        for (Method method : NestCells.class.getDeclaredMethods()) {
            if (Modifier.isPublic(method.getModifiers())) {
                String row = "(?s).*\n\\|[^|\n]*`" + method.getName() + "\\(.*";
                Check.same("the table has " + method.getName(), readme.matches(row), true);
            }
        }
    }
}
