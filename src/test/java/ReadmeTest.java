import java.io.IOException;
import java.lang.reflect.Method;
import java.nio.file.Files;
import java.nio.file.Path;
import java.util.HashMap;
import java.util.Map;
import java.util.regex.Matcher;
import java.util.regex.Pattern;

/** What README.md shows must be so: its example is played line by line, and each call of the face is named. */
public final class ReadmeTest {
    private static final Pattern LINE = Pattern.compile("(?:int (\\w+) = )?(?:town\\.(\\w+)|read)\\((.*)\\); *// -> (-?\\d+)\\b.*");
    private static final int LEAST_LINES = 20;

    private final Due due = new Due("Readme");
    private final RollTown town = new RollTown();
    private final Map<String, Integer> names = new HashMap<>();
    private final Map<String, Method> acts = new HashMap<>();

    public static void main(String[] args) throws IOException, ReflectiveOperationException {
        new ReadmeTest().look(Files.readString(Path.of("README.md")));
    }

    private void look(String readme) throws ReflectiveOperationException {
        for (Method m : RollTown.class.getDeclaredMethods()) {
            acts.put(m.getName(), m);
        }
        int played = 0;
        for (String line : readme.split("\n")) {
            Matcher m = LINE.matcher(line);
            if (m.matches()) {
                played++;
                int answer = m.group(2) == null ? Due.text(town, quoted(m.group(3))) : call(m.group(2), m.group(3));
                due.is(line, answer, Integer.parseInt(m.group(4)));
                names.put(String.valueOf(m.group(1)), answer);
            }
        }
        due.is("lines of the example", played >= LEAST_LINES ? 1 : 0, 1);
        faceIsNamed(readme);
        due.end();
    }

    private static String quoted(String args) {
        return args.substring(args.indexOf('"') + 1, args.lastIndexOf('"'));
    }

    private int call(String name, String args) throws ReflectiveOperationException {
        String[] words = args.isEmpty() ? new String[0] : args.split(", ");
        Object[] values = new Object[words.length];
        for (int i = 0; i < values.length; i++) {
            int sum = 0;
            for (String part : words[i].split(" \\+ ")) {
                sum += names.containsKey(part) ? names.get(part) : Integer.parseInt(part);
            }
            values[i] = sum;
        }
        return (Integer) acts.get(name).invoke(town, values);
    }

    private void faceIsNamed(String readme) {
        for (Method m : RollTown.class.getMethods()) {
            if (m.getDeclaringClass() == RollTown.class) {
                StringBuilder shape = new StringBuilder("`" + m.getName() + "\\(");
                for (int i = 0; i < m.getParameterCount(); i++) {
                    shape.append(i == 0 ? "\\w+" : ", \\w+");
                }
                boolean isNamed = Pattern.compile(shape + "\\)`").matcher(readme).find();
                due.is(m.getName() + " is named", isNamed ? 1 : 0, 1);
            }
        }
    }
}
