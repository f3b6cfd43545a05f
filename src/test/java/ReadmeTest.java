import java.io.IOException;
import java.lang.reflect.Method;
import java.lang.reflect.Modifier;
import java.nio.file.Files;
import java.nio.file.Path;
import java.util.List;
import java.util.regex.Matcher;
import java.util.regex.Pattern;
import java.util.stream.Stream;

/** README.md: its calls answer what stands behind them, and it names each call of the face and each test. */
public final class ReadmeTest {
    private static final Pattern CALL = Pattern.compile("    x\\.(\\w+)\\(([^)]*)\\); +// ([-\\w]+)(:.*)?");
    private static final String NEW = "    LongTrail x = new LongTrail();";

    public static void main(String[] args) throws Exception {
        List<String> lines = Files.readAllLines(Path.of("README.md"));
        examples(lines);
        calls(String.join("\n", lines));
        tests(String.join("\n", lines));
        Due.end("ReadmeTest");
    }

    private static void examples(List<String> lines) throws Exception {
        LongTrail x = new LongTrail();
        int made = 0;
        int calls = 0;
        for (String line : lines) {
            Matcher call = CALL.matcher(line);
            if (line.equals(NEW)) {
                x = new LongTrail();
                made++;
            } else if (call.matches()) {
                Due.is(line.trim(), answer(x, call.group(1), call.group(2)), number(call.group(3)));
                calls++;
            } else {
                Due.is("read as a call: " + line, line.startsWith("    x.") ? 1 : 0, 0);
            }
        }
        Due.is("objects made", made, 5);
        Due.is("more than 50 calls made", calls > 50 ? 1 : 0, 1);
    }

    private static int answer(LongTrail x, String name, String numbers) throws Exception {
        String[] words = numbers.isEmpty() ? new String[0] : numbers.split(", ");
        Class<?>[] types = new Class<?>[words.length];
        Object[] given = new Object[words.length];
        for (int i = 0; i < words.length; i++) {
            types[i] = int.class;
            given[i] = number(words[i]);
        }
        return (Integer) LongTrail.class.getMethod(name, types).invoke(x, given);
    }

    private static int number(String word) throws Exception {
        return word.matches("[A-Z]+") ? LongTrail.class.getField(word).getInt(null) : Integer.decode(word);
    }

    private static void calls(String readme) {
        for (Method method : LongTrail.class.getDeclaredMethods()) {
            if (Modifier.isPublic(method.getModifiers())) {
                Due.is("names " + method.getName(), readme.contains("`" + method.getName() + "`") ? 1 : 0, 1);
            }
        }
    }

    private static void tests(String readme) throws IOException {
        try (Stream<Path> files = Files.list(Path.of("src/test/java"))) {
            for (Path file : (Iterable<Path>) files::iterator) {
                String name = file.getFileName().toString().replace(".java", "");
                Due.is("names " + name, Pattern.compile("\\b" + name + "\\b").matcher(readme).find() ? 1 : 0, 1);
            }
        }
    }
}
