import java.io.IOException;
import java.lang.reflect.Method;
import java.nio.file.Files;
import java.nio.file.Path;
import java.util.TreeSet;
import java.util.regex.Matcher;
import java.util.regex.Pattern;

/** What README.md shows is so: each call there answers what stands behind it, and no call of the face is left out. */
public final class ReadmeTest {
    private static final Pattern CALL = Pattern.compile("x\\.(\\w+)\\(([^)]*)\\);\\s*// (-?\\d+|true|false)\\b.*");
    private static final String TOWN = "```text";

    private final TreeSet<String> shown = new TreeSet<>();
    private NoseCensus x = new NoseCensus();

    public static void main(String[] args) throws IOException, ReflectiveOperationException {
        ReadmeTest test = new ReadmeTest();
        test.read(Files.readString(Path.of("README.md")));
        test.allAreShown();
        Check.end();
    }

    /** A block of text is a town told anew; the lines of Java are made one behind another. */
    private void read(String readme) throws ReflectiveOperationException {
        StringBuilder town = null;
        for (String line : readme.split("\n")) {
            if (line.equals(TOWN)) {
                town = new StringBuilder();
            } else if (town != null && line.equals("```")) {
                x = Check.town(town.toString());
                town = null;
            } else if (town != null) {
                town.append(line).append('\n');
            } else if (line.startsWith("x.")) {
                ask(line);
            }
        }
    }

    private void ask(String line) throws ReflectiveOperationException {
        Matcher call = CALL.matcher(line);
        Check.yes("a call with its answer: " + line, call.matches());
        if (!call.matches()) {
            return;
        }
        Method method = named(call.group(1));
        String[] told = call.group(2).isEmpty() ? new String[0] : call.group(2).split(", ");
        Object[] arguments = new Object[told.length];
        for (int i = 0; i < told.length; i++) {
            boolean is = method.getParameterTypes()[i] == boolean.class;
            arguments[i] = is ? (Object) Boolean.valueOf(told[i]) : (Object) Integer.decode(told[i]);
        }
        Object answer = method.invoke(x, arguments);
        Check.yes(line + " answered " + answer, answer.toString().equals(call.group(3)));
        shown.add(method.getName());
    }

    private static Method named(String name) {
        for (Method method : NoseCensus.class.getMethods()) {
            if (method.getName().equals(name) && method.getDeclaringClass() == NoseCensus.class) {
                return method;
            }
        }
        throw new IllegalArgumentException("README.md calls " + name);
    }

    private void allAreShown() {
        for (Method method : NoseCensus.class.getMethods()) {
            if (method.getDeclaringClass() == NoseCensus.class) {
                Check.yes("README.md shows " + method.getName(), shown.contains(method.getName()));
            }
        }
    }
}
