import java.io.IOException;
import java.lang.reflect.Method;
import java.nio.file.Files;
import java.nio.file.Path;
import java.util.List;
import java.util.regex.Matcher;
import java.util.regex.Pattern;

/** The examples of README.md, run as they stand there: each call answers what the comment behind it tells. */
public final class ReadmeRuns {
    private static final String NEW_HOUSE = "ShiftHouse house = new ShiftHouse();";
    private static final Pattern CALL =
        Pattern.compile("house\\.(\\w+)\\(([^)]*)\\);\\s*// (-?\\d+|true|false)(?:[:,] .*)?");

    private ShiftHouse house;
    private int calls;

    public static void main(String[] args) throws IOException, ReflectiveOperationException {
        String readme = Files.readString(Path.of("README.md"));
        ReadmeRuns runs = new ReadmeRuns();
        String[] parts = readme.split("```");
        for (int i = 1; i < parts.length; i += 2) {
            if (parts[i].startsWith("java\n")) {
                runs.example(parts[i].substring(5).split("\n"));
            }
        }
        Due.is("README.md has examples", runs.calls > 0, true);
        Due.is("README.md tells how to run the tests", readme.contains(".ci/run"), true);
        everyCallIsNamed(readme);
        Due.end();
    }

    private void example(String[] lines) throws ReflectiveOperationException {
        house = null;
        for (String line : lines) {
            String text = line.strip();
            Matcher call = CALL.matcher(text);
            if (text.startsWith(NEW_HOUSE)) {
                house = new ShiftHouse();
            } else if (house != null && call.matches()) {
                Due.is("README.md: " + text, answer(call.group(1), call.group(2)), told(call.group(3)));
                calls++;
            } else {
                Due.is("README.md: a line that is no call and its answer: " + text, text.isEmpty(), true);
            }
        }
    }

    private long answer(String name, String arguments) throws ReflectiveOperationException {
        List<String> words = arguments.isEmpty() ? List.of() : List.of(arguments.split(", "));
        for (Method method : ShiftHouse.class.getMethods()) {
            if (method.getName().equals(name) && method.getParameterCount() == words.size()) {
                return told(method.invoke(house, words.stream().map(ReadmeRuns::argument).toArray()).toString());
            }
        }
        throw new NoSuchMethodException(name + "(" + arguments + ")");
    }

    private static Object argument(String word) {
        boolean isFlag = word.equals("true") || word.equals("false");
        return isFlag ? (Object) Boolean.valueOf(word) : (Object) Integer.decode(word);
    }

    private static long told(String answer) {
        return answer.equals("true") ? 1 : answer.equals("false") ? 0 : Long.parseLong(answer);
    }

    private static void everyCallIsNamed(String readme) {
        for (String call : Face.calls()) {
            String name = call.substring(call.indexOf(' ') + 1, call.indexOf('('));
            Due.is("README.md names " + name, readme.contains(name + "("), true);
        }
    }
}
