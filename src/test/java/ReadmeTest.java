import java.io.IOException;
import java.lang.reflect.Method;
import java.nio.file.Files;
import java.nio.file.Path;
import java.util.regex.Matcher;
import java.util.regex.Pattern;

/** Whether the calls in README.md answer what is said behind them there. The project's folder is where it is run. */
final class ReadmeTest {
    private static final Pattern TEXT = Pattern.compile("\"([^\"]+)\"\\.toCharArray");
    private static final Pattern CALL = Pattern.compile(" {4}runner\\.(\\w+)\\(([^)]*)\\); +// (-?\\w+).*");

    public static void main(String[] args) throws IOException, ReflectiveOperationException {
        BehaviorRunner runner = new BehaviorRunner();
        int calls = 0;
        for (String line : Files.readAllLines(Path.of("README.md"))) {
            Matcher text = TEXT.matcher(line);
            if (text.find()) {
                Check.type(runner, text.group(1));
            }
            Matcher call = CALL.matcher(line);
            if (call.matches()) {
                calls++;
                Check.due(line.trim(), answer(runner, call.group(1), call.group(2)), meant(call.group(3)));
            }
        }
        Check.due("there are calls in README.md", calls >= 10 ? 1 : 0, 1);
        Check.end();
    }

    private static int answer(BehaviorRunner runner, String name, String arguments) throws ReflectiveOperationException {
        String[] parts = arguments.isEmpty() ? new String[0] : arguments.split(", *");
        Class<?>[] types = new Class<?>[parts.length];
        Object[] values = new Object[parts.length];
        for (int i = 0; i < parts.length; i++) {
            types[i] = int.class;
            values[i] = parts[i].startsWith("'") ? (int) parts[i].charAt(1) : Integer.parseInt(parts[i]);
        }
        Method method = BehaviorRunner.class.getMethod(name, types);
        return (int) method.invoke(runner, values);
    }

    private static int meant(String answer) throws ReflectiveOperationException {
        boolean number = answer.matches("-?\\d+");
        return number ? Integer.parseInt(answer) : BehaviorRunner.class.getField(answer).getInt(null);
    }
}
