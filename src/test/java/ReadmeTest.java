import java.io.IOException;
import java.lang.reflect.Method;
import java.lang.reflect.Modifier;
import java.nio.file.Files;
import java.nio.file.Path;
import java.util.Arrays;
import java.util.HashMap;
import java.util.Map;
import java.util.Set;
import java.util.TreeSet;
import java.util.regex.Matcher;
import java.util.regex.Pattern;

/** README.md explains each call and constant of the face, and the calls of its examples answer what stands behind them. */
final class ReadmeTest {
    private static final Pattern EXAMPLE = Pattern.compile("(?s)```java\n(.*?)```");
    private static final String FIRST_LINE = "CleaningRota rota = new CleaningRota();";
    private static final Pattern CALL =
        Pattern.compile("(?:int (\\w+) = )?rota\\.(\\w+)\\((.*?)\\); +// (-?\\d+|[A-Z_]+)(?:: .*)?");
    private static final Set<String> PLAYED = new TreeSet<>();

    private final CleaningRota rota = new CleaningRota();
    private final Map<String, Integer> names = new HashMap<>();

    private ReadmeTest() {
    }

    static void run(Path path) throws Exception {
        String text = Files.readString(path);
        constantsAreExplained(text);
        callsAreExplained(text);
        Matcher examples = EXAMPLE.matcher(text);
        while (examples.find()) {
            new ReadmeTest().play(examples.group(1).split("\n"));
        }
        for (Method method : CleaningRota.class.getDeclaredMethods()) {
            Check.holds("an example of README.md calls " + method.getName(), isHidden(method) || PLAYED.contains(method.getName()));
        }
    }

    private static boolean isHidden(Method method) {
        return !Modifier.isPublic(method.getModifiers());
    }

    private static void constantsAreExplained(String text) throws Exception {
        for (var field : CleaningRota.class.getFields()) {
            String row = "| `" + field.getName() + "` | " + field.getInt(null) + " |";
            Check.holds("README.md has the row " + row, text.contains("\n" + row));
        }
    }

    private static void callsAreExplained(String text) {
        for (Method method : CleaningRota.class.getDeclaredMethods()) {
            int parameters = method.getParameterCount();
            String names = parameters == 0 ? "" : "\\w+" + ", \\w+".repeat(parameters - 1);
            Pattern row = Pattern.compile("\n\\| `" + method.getName() + "\\(" + names + "\\)` \\|");
            Check.holds("README.md has a row of " + method.getName(), isHidden(method) || row.matcher(text).find());
        }
    }

    private void play(String[] lines) throws Exception {
        Check.holds("an example begins with a new object: " + lines[0], lines[0].equals(FIRST_LINE));
        for (String line : Arrays.copyOfRange(lines, 1, lines.length)) {
            Matcher call = CALL.matcher(line);
            boolean isCall = call.matches();
            Check.holds("an example has calls with their answers: " + line, isCall);
            if (isCall) {
                int answer = answerOf(call.group(2), call.group(3));
                Check.is("README.md: " + line, answer, valueOf(call.group(4)));
                names.put(call.group(1), answer);
            }
        }
    }

    private int answerOf(String name, String arguments) throws Exception {
        String[] words = arguments.isEmpty() ? new String[0] : arguments.split(", ");
        for (Method method : CleaningRota.class.getMethods()) {
            if (method.getName().equals(name) && method.getParameterCount() == words.length) {
                PLAYED.add(name);
                Object[] values = new Object[words.length];
                for (int i = 0; i < words.length; i++) {
                    boolean isLong = method.getParameterTypes()[i] == long.class;
                    if (isLong) {
                        values[i] = valueOf(words[i]);
                    } else {
                        values[i] = (int) valueOf(words[i]);
                    }
                }
                return (int) method.invoke(rota, values);
            }
        }
        throw new IOException("README.md calls " + name + "(" + arguments + "), which is no call of the class");
    }

    /** What a number, a constant of the class or a name given in the example stands for. */
    private long valueOf(String word) throws Exception {
        if (names.containsKey(word)) {
            return names.get(word);
        }
        String constant = word.replaceFirst("^CleaningRota\\.", "");
        if (constant.matches("[A-Z_]+")) {
            return CleaningRota.class.getField(constant).getInt(null);
        }
        return Long.decode(word.replaceFirst("L$", ""));
    }
}
