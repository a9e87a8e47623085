import java.io.IOException;
import java.lang.reflect.Method;
import java.lang.reflect.Modifier;
import java.nio.file.Files;
import java.nio.file.Path;
import java.util.HashMap;
import java.util.Map;
import java.util.Set;
import java.util.TreeSet;
import java.util.regex.Matcher;
import java.util.regex.Pattern;

/** Plays the examples of README.md: each answers what stands behind it, and each call of the face is in one. */
public final class ReadmeTest {
    private static final Check CHECK = new Check("ReadmeTest");
    private static final Pattern BLOCK = Pattern.compile("(?s)```java\n(.*?)```");
    private static final Pattern CALL = Pattern.compile("(?:int (\\w+) = )?x\\.(\\w+)\\(([^)]*)\\);\\s*// (-?\\d+).*");

    private final Map<String, Method> methods = new HashMap<>();
    private final Set<String> shown = new TreeSet<>();
    private final Map<String, Integer> names = new HashMap<>();
    private StageMachine x;

    public static void main(String[] args) throws IOException, ReflectiveOperationException {
        new ReadmeTest().plays(Files.readString(Path.of("README.md")));
        CHECK.end();
    }

    private void plays(String page) throws ReflectiveOperationException {
        for (Method m : StageMachine.class.getDeclaredMethods()) {
            if (Modifier.isPublic(m.getModifiers())) {
                methods.put(m.getName(), m);
            }
        }
        Matcher block = BLOCK.matcher(page);
        while (block.find()) {
            names.clear();
            for (String line : block.group(1).split("\n")) {
                playsLine(line);
            }
        }
        CHECK.holds("all calls are shown, here " + shown, shown.equals(methods.keySet()));
    }

    private void playsLine(String line) throws ReflectiveOperationException {
        if (line.equals("StageMachine x = new StageMachine();")) {
            x = new StageMachine();
            return;
        }
        Matcher call = CALL.matcher(line);
        boolean read = x != null && call.matches() && methods.containsKey(call.group(2));
        CHECK.holds("can be played: " + line, read);
        if (!read) {
            return;
        }
        int answer = (int) methods.get(call.group(2)).invoke(x, arguments(call.group(3)));
        CHECK.due(line, answer, Integer.parseInt(call.group(4)));
        shown.add(call.group(2));
        if (call.group(1) != null) {
            names.put(call.group(1), answer);
        }
    }

    private Object[] arguments(String text) {
        if (text.isEmpty()) {
            return new Object[0];
        }
        String[] parts = text.split(", ");
        Object[] values = new Object[parts.length];
        for (int i = 0; i < parts.length; i++) {
            Integer named = names.get(parts[i]);
            values[i] = named != null ? named : Integer.decode(parts[i]);
        }
        return values;
    }
}
