import java.io.IOException;
import java.lang.reflect.InvocationTargetException;
import java.lang.reflect.Method;
import java.lang.reflect.Modifier;
import java.nio.file.Files;
import java.nio.file.Path;
import java.util.Arrays;
import java.util.List;
import java.util.regex.Matcher;
import java.util.regex.Pattern;

/** The calls that README.md shows answer what it says behind them, and it names every call of the face. */
public final class ReadmeTest extends Checks {
    private static final String MAKES = "StrongCells x = new StrongCells();";
    private static final Pattern CALL = Pattern.compile("x\\.(\\w+)\\(([-0-9, ]*)\\); +// (\\w+): .+");

    public static void main(String[] args) throws IOException, ReflectiveOperationException {
        List<String> page = Files.readAllLines(Path.of("README.md"));
        namesAllCalls(String.join("\n", page));
        answersAreAsShown(page.subList(page.indexOf("```java") + 1, page.size()));
        end("the README holds");
    }

    private static void namesAllCalls(String page) {
        of("README.md names each call");
        for (Method m : StrongCells.class.getDeclaredMethods()) {
            if (Modifier.isPublic(m.getModifiers())) due(m.getName(), page.contains("`" + m.getName() + "("), true);
        }
    }

    private static void answersAreAsShown(List<String> rest) throws ReflectiveOperationException {
        of("README.md, the calls shown");
        List<String> shown = rest.subList(0, rest.indexOf("```"));
        due("the first line makes an object", shown.get(0).equals(MAKES), true);
        StrongCells x = new StrongCells();
        for (String line : shown.subList(1, shown.size())) {
            Matcher call = CALL.matcher(line);
            boolean read = call.matches();
            due("a call and what it answers: " + line, read, true);
            if (read) due(line, answer(x, call.group(1), call.group(2)), shownAnswer(call.group(3)));
        }
    }

    private static int answer(StrongCells x, String name, String arguments) throws ReflectiveOperationException {
        Object[] with = arguments.isEmpty() ? new Object[0] : Arrays.stream(arguments.split(", *")).map(Integer::valueOf).toArray();
        Class<?>[] types = new Class<?>[with.length];
        Arrays.fill(types, int.class);
        try {
            return (Integer) StrongCells.class.getMethod(name, types).invoke(x, with);
        } catch (InvocationTargetException e) {
            throw new IllegalStateException(name + " has thrown", e);
        }
    }

    private static int shownAnswer(String word) throws ReflectiveOperationException {
        boolean number = Character.isDigit(word.charAt(0));
        return number ? Integer.parseInt(word) : StrongCells.class.getField(word).getInt(null);
    }
}
