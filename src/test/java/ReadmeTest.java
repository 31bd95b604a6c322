import java.io.IOException;
import java.lang.reflect.Method;
import java.nio.file.Files;
import java.nio.file.Path;
import java.util.regex.Matcher;
import java.util.regex.Pattern;

/** README.md: each call of its example answers what stands behind it there, and each call of the face is named. */
public final class ReadmeTest {
    private static final Pattern CALL = Pattern.compile("room\\.(\\w+)\\((.*?)\\); *// (-?\\d+|[A-Z]+)\\b.*");

    public static void main(String[] args) throws IOException, ReflectiveOperationException {
        String text = Files.readString(Path.of("README.md"));
        String example = text.split("```")[1];
        TwoKeys room = new TwoKeys();
        int calls = 0;
        for (String line : example.split("\n")) {
            if (!line.startsWith("room.")) continue;
            Matcher call = CALL.matcher(line);
            Due.holds("'" + line + "' has its answer behind it", call.matches());
            if (!call.matches()) continue;
            Due.is(line, answer(room, call.group(1), call.group(2)), due(call.group(3)));
            calls++;
        }
        Due.holds("the example is there", calls > 20);
        for (Method method : TwoKeys.class.getDeclaredMethods()) {
            int is = method.getModifiers();
            if (!java.lang.reflect.Modifier.isPublic(is)) continue;
            Due.holds(method.getName() + " is named", text.contains("`" + method.getName() + "`"));
        }
        Due.end();
    }

    private static int due(String answer) throws ReflectiveOperationException {
        boolean named = Character.isLetter(answer.charAt(0));
        return named ? TwoKeys.class.getField(answer).getInt(null) : Integer.parseInt(answer);
    }

    private static int answer(TwoKeys room, String name, String list) throws ReflectiveOperationException {
        for (Method method : TwoKeys.class.getMethods()) {
            if (!method.getName().equals(name)) continue;
            String[] texts = list.isEmpty() ? new String[0] : list.split(", ");
            Object[] values = new Object[texts.length];
            for (int i = 0; i < texts.length; i++) values[i] = value(method.getParameterTypes()[i], texts[i]);
            return (Integer) method.invoke(room, values);
        }
        throw new IllegalArgumentException("there is no call " + name);
    }

    private static Object value(Class<?> type, String text) throws ReflectiveOperationException {
        if (type == boolean.class) return Boolean.valueOf(text);
        return text.startsWith("TwoKeys.") ? due(text.substring("TwoKeys.".length())) : Integer.parseInt(text);
    }
}
