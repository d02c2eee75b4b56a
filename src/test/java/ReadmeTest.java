import java.io.IOException;
import java.lang.reflect.InvocationTargetException;
import java.lang.reflect.Method;
import java.nio.file.Files;
import java.nio.file.Path;
import java.util.List;
import java.util.regex.Matcher;
import java.util.regex.Pattern;
import java.util.stream.Stream;

/** Every call that README.md shows answers what it says there, one object for the whole page; and its table names each test. */
public final class ReadmeTest {
    private static final Pattern TELL = Pattern.compile("Check\\.tell\\(x, \"([^\"]*)\"\\);");
    private static final Pattern CALL = Pattern.compile("x\\.(\\w+)\\(([^)]*)\\); +// (-?\\d+)(:.*)?");
    private static final Check CHECK = new Check("ReadmeTest");

    private CableElection x = null;
    private int calls = 0;

    public static void main(String[] args) throws IOException, ReflectiveOperationException {
        List<String> lines = Files.readAllLines(Check.project().resolve("README.md"));
        new ReadmeTest().live(lines);
        namesEachTest(String.join("\n", lines));
        CHECK.close();
    }

    private void live(List<String> lines) throws ReflectiveOperationException {
        boolean isJava = false;
        for (String line : lines) {
            if (line.startsWith("```")) {
                isJava = line.equals("```java");
            } else if (isJava && !line.startsWith("//")) {
                take(line);
            }
        }
        CHECK.due("calls that are shown, 50 or more", Math.min(calls, 50), 50);
    }

    private void take(String line) throws ReflectiveOperationException {
        Matcher tell = TELL.matcher(line);
        Matcher call = CALL.matcher(line);
        if (line.equals("CableElection x = new CableElection();")) {
            x = new CableElection();
        } else if (tell.matches()) {
            Check.tell(x, tell.group(1));
        } else if (call.matches()) {
            calls++;
            CHECK.due(line, answer(call.group(1), call.group(2)), Integer.parseInt(call.group(3)));
        } else {
            CHECK.due("a line that can't be checked: " + line, 1, 0);
        }
    }

    private int answer(String name, String numbers) throws ReflectiveOperationException {
        String[] parts = numbers.isEmpty() ? new String[0] : numbers.split(", ");
        Object[] values = new Object[parts.length];
        Class<?>[] types = new Class<?>[parts.length];
        for (int i = 0; i < parts.length; i++) {
            values[i] = parts[i].startsWith("0b") ? Integer.parseInt(parts[i].substring(2), 2) : Long.decode(parts[i]).intValue();
            types[i] = int.class;
        }
        Method method = CableElection.class.getMethod(name, types);
        try {
            return (Integer) method.invoke(x, values);
        } catch (InvocationTargetException e) {
            throw new IllegalStateException(name + " threw", e);
        }
    }

    private static void namesEachTest(String page) throws IOException {
        try (Stream<Path> files = Files.list(Check.project().resolve("src/test/java"))) {
            for (Path file : files.toList()) {
                String name = file.getFileName().toString().replace(".java", "");
                if (name.endsWith("Test")) {
                    CHECK.due("the table names " + name, page.contains("\n| " + name + " |") ? 1 : 0, 1);
                }
            }
        }
    }
}
