import java.io.IOException;
import java.lang.reflect.Method;
import java.nio.file.Files;
import java.nio.file.Path;
import java.util.regex.Matcher;
import java.util.regex.Pattern;

/** The calls that README.md shows answer what it says behind them; and it names every test; run from the project's folder. */
public final class ReadmeTest {
    private static final Pattern MADE = Pattern.compile("FourAPole x = new FourAPole\\(\\);");
    private static final Pattern SHOWN = Pattern.compile("x\\.(\\w+)\\(([^)]*)\\);\\s+// (-?\\d+|true|false)\\b.*");
    private static final int LEAST_SHOWN = 30;

    private ReadmeTest() {
    }

    public static void main(String[] args) throws IOException, ReflectiveOperationException {
        String readme = Files.readString(Path.of("README.md"));
        FourAPole x = new FourAPole();
        int shown = 0;
        for (String line : readme.split("\n")) {
            Matcher call = SHOWN.matcher(line);
            if (MADE.matcher(line).find()) {
                x = new FourAPole();
            } else if (call.matches()) {
                shown++;
                Check.due(line + " answered otherwise", called(x, call.group(1), call.group(2)).equals(call.group(3)), true);
            } else {
                Check.due(line + " is a call without its answer", line.startsWith("x."), false);
            }
        }
        Check.due("as many calls are shown", shown >= LEAST_SHOWN, true);
        try (var tests = Files.list(Path.of("src/test/java"))) {
            for (Path test : tests.toList()) {
                String name = test.getFileName().toString().replace(".java", "");
                Check.due("README.md names " + name, readme.contains("`" + name + "`"), true);
            }
        }
        Check.end("ReadmeTest");
    }

    private static String called(FourAPole x, String name, String given) throws ReflectiveOperationException {
        String[] parts = given.isEmpty() ? new String[0] : given.split(", ");
        Class<?>[] types = new Class<?>[parts.length];
        Object[] values = new Object[parts.length];
        for (int i = 0; i < parts.length; i++) {
            types[i] = int.class;
            values[i] = Long.decode(parts[i]).intValue();
        }
        Method method = FourAPole.class.getMethod(name, types);
        return method.invoke(x, values).toString();
    }
}
