import java.io.IOException;
import java.lang.reflect.Method;
import java.lang.reflect.Modifier;
import java.nio.file.Files;
import java.nio.file.Path;
import java.util.regex.Matcher;
import java.util.regex.Pattern;

/** The lines of README.md that show a call of x and its answer, asked one behind the other of one object. */
public final class ReadmeTest {
    private static final Pattern CALL = Pattern.compile("(?m)^x\\.(\\w+)\\((.*)\\); +// ([-\\w]+).*$");
    private static final Pattern CALLED = Pattern.compile("(?m)^x\\..*$");
    private static final Due due = new Due();

    public static void main(String[] args) throws IOException, ReflectiveOperationException {
        String readme = Files.readString(Path.of("README.md"));
        TattooRoads x = new TattooRoads();
        Matcher call = CALL.matcher(readme);
        int asked = 0;
        while (call.find()) {
            asked++;
            due.is(call.group(), number(call.group(3)), answer(x, call.group(1), call.group(2)));
        }
        due.is("lines that are no call and its answer", CALLED.matcher(readme).results().count(), asked);
        for (Method method : TattooRoads.class.getDeclaredMethods()) {
            boolean open = Modifier.isPublic(method.getModifiers());
            due.is("README names " + method.getName(), 1, !open || readme.contains("`" + method.getName() + "`") ? 1 : 0);
        }
        due.end();
    }

    private static int answer(TattooRoads x, String name, String arguments) throws ReflectiveOperationException {
        String[] parts = arguments.isEmpty() ? new String[0] : arguments.split(", ");
        Class<?>[] types = new Class<?>[parts.length];
        Object[] values = new Object[parts.length];
        for (int i = 0; i < parts.length; i++) {
            types[i] = int.class;
            values[i] = number(parts[i]);
        }
        return (int) TattooRoads.class.getMethod(name, types).invoke(x, values);
    }

    /** A number, or a constant by its name. */
    private static int number(String word) throws ReflectiveOperationException {
        String name = word.replace("TattooRoads.", "");
        return Character.isUpperCase(name.charAt(0)) ? TattooRoads.class.getField(name).getInt(null) : Integer.decode(name);
    }
}
