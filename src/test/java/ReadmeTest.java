import java.io.IOException;
import java.lang.reflect.Method;
import java.nio.file.Files;
import java.nio.file.Path;
import java.util.regex.Matcher;
import java.util.regex.Pattern;
import support.Due;

/** The calls that README.md shows, in their order on one object, answer what stands beside them. */
public final class ReadmeTest {
    private static final Pattern SHOWN = Pattern.compile("    x\\.(\\w+)\\((.*)\\); +// (-?\\d+)\\b.*");
    private static final Due due = new Due();

    public static void main(String[] args) throws IOException, ReflectiveOperationException {
        WarmHouses x = new WarmHouses();
        due.promise("README.md");
        int shown = 0;
        for (String line : Files.readAllLines(Path.of("README.md"))) {
            Matcher m = SHOWN.matcher(line);
            if (m.matches()) {
                shown++;
                due.is(line.trim(), call(x, m.group(1), m.group(2)), Integer.parseInt(m.group(3)));
            } else {
                due.holds("its form is as the others': " + line, !line.startsWith("    x."));
            }
        }
        due.holds("it shows calls", shown > 10);
        due.end();
    }

    private static int call(WarmHouses x, String name, String arguments) throws ReflectiveOperationException {
        String[] parts = arguments.isEmpty() ? new String[0] : arguments.split(", ");
        Object[] values = new Object[parts.length];
        Class<?>[] types = new Class<?>[parts.length];
        for (int i = 0; i < parts.length; i++) {
            types[i] = int.class;
            values[i] = parts[i].startsWith("'") ? parts[i].charAt(1) : Integer.parseInt(parts[i]);
        }
        Method method = WarmHouses.class.getMethod(name, types);
        return (int) method.invoke(x, values);
    }
}
