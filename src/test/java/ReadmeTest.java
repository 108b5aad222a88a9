import java.lang.reflect.Method;
import java.lang.reflect.Modifier;
import java.nio.file.Files;
import java.nio.file.Path;
import java.util.regex.Matcher;
import java.util.regex.Pattern;

/** The calls that README.md shows answer what it tells behind them, in the order in which they stand there. */
public final class ReadmeTest extends Checks {
    private static final Pattern CALL = Pattern.compile("seeker\\.(\\w+)\\(([^()]*)\\); +// (-?\\d+).*");
    private static final Pattern TEXT = Pattern.compile("String text = \"([^\"]*)\";");

    public static void main(String[] args) throws Exception {
        NameSeeker seeker = new NameSeeker();
        String readme = Files.readString(Path.of("README.md"));
        String text = "";
        int shown = 0;
        int called = 0;
        for (String line : readme.split("\n")) {
            shown += line.startsWith("seeker.") ? 1 : 0;
            Matcher told = TEXT.matcher(line);
            Matcher call = CALL.matcher(line);
            if (told.matches()) {
                text = told.group(1);
            } else if (line.contains("seeker.write(text.charAt(i));")) {
                write(seeker, text);
            } else if (call.matches()) {
                called++;
                due(line, answer(seeker, call.group(1), call.group(2)), Integer.parseInt(call.group(3)));
            }
        }
        due("README.md shows calls", shown > 0, true);
        due("calls of README.md that were made", called, shown);
        for (Method method : NameSeeker.class.getDeclaredMethods()) {
            String name = method.getName();
            boolean isFace = Modifier.isPublic(method.getModifiers());
            due("README.md tells what " + name + " is for", !isFace || readme.contains("`" + name + "`"), true);
        }
        end();
    }

    private static int answer(NameSeeker seeker, String name, String told) throws Exception {
        String[] arguments = told.isEmpty() ? new String[0] : told.split(", ");
        Class<?>[] types = new Class<?>[arguments.length];
        Object[] values = new Object[arguments.length];
        for (int i = 0; i < arguments.length; i++) {
            types[i] = int.class;
            values[i] = arguments[i].startsWith("'") ? arguments[i].charAt(1) : Integer.parseInt(arguments[i]);
        }
        return (Integer) NameSeeker.class.getMethod(name, types).invoke(seeker, values);
    }
}
