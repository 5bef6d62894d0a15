import java.io.IOException;
import java.lang.reflect.Method;
import java.lang.reflect.Modifier;
import java.nio.file.Files;
import java.nio.file.Path;
import java.util.Set;
import java.util.TreeSet;
import java.util.regex.Matcher;
import java.util.regex.Pattern;

/** The calls in README.md answer what is said beside them, and every call of the face is there. */
public final class ReadmeTest {

    private static final Pattern CALL = Pattern.compile("x\\.(\\w+)\\((.*)\\);\\s+// (-?\\d+)\\b.*");

    private static final Due due = new Due();

    public static void main(String[] args) throws IOException, ReflectiveOperationException {
        ForestPacker packer = new ForestPacker();
        Set<String> left = new TreeSet<>();
        for (Method method : ForestPacker.class.getDeclaredMethods()) {
            if (Modifier.isPublic(method.getModifiers())) {
                left.add(method.getName());
            }
        }
        for (String line : Files.readAllLines(Path.of("README.md"))) {
            Matcher call = CALL.matcher(line);
            if (call.matches()) {
                int got = answer(packer, call.group(1), call.group(2));
                due.is("README.md: " + line, got, Integer.parseInt(call.group(3)));
                left.remove(call.group(1));
            } else {
                due.is("README.md: is told with an answer: " + line, line.startsWith("x.") ? 0 : 1, 1);
            }
        }
        due.is("README.md: calls left out: " + left, left.size(), 0);
        due.end();
    }

    private static int answer(ForestPacker packer, String name, String list) throws ReflectiveOperationException {
        String[] texts = list.isEmpty() ? new String[0] : list.split(", ");
        Class<?>[] types = new Class<?>[texts.length];
        Object[] values = new Object[texts.length];
        for (int i = 0; i < texts.length; i++) {
            types[i] = int.class;
            values[i] = texts[i].equals("ForestPacker.NONE") ? ForestPacker.NONE : Integer.parseInt(texts[i]);
        }
        return (int) ForestPacker.class.getMethod(name, types).invoke(packer, values);
    }
}
