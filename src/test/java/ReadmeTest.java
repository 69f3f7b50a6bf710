import java.lang.reflect.Method;
import java.lang.reflect.Modifier;
import java.nio.file.Files;
import java.nio.file.Path;
import java.util.regex.Matcher;
import java.util.regex.Pattern;

/** The example of README.md answers as README.md says, and README.md names each call and each constant. */
public final class ReadmeTest {
    private static final Pattern CALL = Pattern.compile("song\\.(\\w+)\\((.*?)\\); *// (-?\\d+)(:.*)?");
    private static final int CALLS = 19;

    public static void main(String[] args) throws Exception {
        String text = Files.readString(Path.of("README.md"));
        example(text);
        names(text);
        Check.end();
    }

    private static void example(String text) throws Exception {
        SungSlides song = new SungSlides();
        int calls = 0;
        for (String line : text.split("\n")) {
            Matcher call = CALL.matcher(line);
            if (call.matches()) {
                calls++;
                Check.due(line, answer(song, call.group(1), call.group(2)), Integer.parseInt(call.group(3)));
            } else {
                Check.due("a call without an answer: " + line, line.startsWith("song.") ? 1 : 0, 0);
            }
        }
        Check.due("calls of the example", calls, CALLS);
    }

    private static int answer(SungSlides song, String name, String list) throws Exception {
        String[] words = list.isEmpty() ? new String[0] : list.split(", ");
        for (Method method : SungSlides.class.getMethods()) {
            if (method.getName().equals(name) && method.getParameterCount() == words.length) {
                return (int) method.invoke(song, values(method.getParameterTypes(), words));
            }
        }
        throw new IllegalStateException("README.md calls " + name + ", which is not there");
    }

    private static Object[] values(Class<?>[] types, String[] words) {
        Object[] values = new Object[words.length];
        for (int i = 0; i < words.length; i++) {
            if (types[i] == boolean.class) {
                values[i] = words[i].equals("true");
            } else if (types[i] == char.class) {
                values[i] = words[i].charAt(1);
            } else {
                values[i] = Integer.parseInt(words[i]);
            }
        }
        return values;
    }

    private static void names(String text) {
        for (Method method : SungSlides.class.getDeclaredMethods()) {
            if (Modifier.isPublic(method.getModifiers())) {
                Check.due("README.md names " + method.getName(), text.contains("`" + method.getName() + "`") ? 1 : 0, 1);
            }
        }
        for (String constant : new String[] {"UNKNOWN", "OUT_OF_RANGE", "FULL", "NONE"}) {
            Check.due("README.md names " + constant, text.contains("`" + constant + "`") ? 1 : 0, 1);
        }
    }
}
