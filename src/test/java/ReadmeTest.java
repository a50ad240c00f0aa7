import java.io.IOException;
import java.lang.reflect.Method;
import java.lang.reflect.Modifier;
import java.nio.file.Files;
import java.nio.file.Path;
import java.util.List;
import java.util.TreeSet;
import java.util.regex.Matcher;
import java.util.regex.Pattern;

/** README.md: what the example's calls answer, and whether its table names just the calls that there are. */
public final class ReadmeTest {
    private static final Pattern CALL = Pattern.compile("x\\.(\\w+)\\(([^)]*)\\);");
    private static final Pattern NUMBER = Pattern.compile("-?\\d+");
    private static final Pattern TYPED = Pattern.compile("\"([^\"]+)\"\\.toCharArray\\(\\)");
    private static final Pattern ROW = Pattern.compile("\\| `(\\w+)\\(([^)]*)\\)` \\|.*");
    private static int wrong = 0;

    public static void main(String[] args) throws IOException, ReflectiveOperationException {
        List<String> lines = Files.readAllLines(Path.of("README.md"));
        int from = lines.indexOf("```java");
        int to = from + 1;
        while (to < lines.size() && !lines.get(to).equals("```")) {
            to++;
        }
        if (from < 0 || to >= lines.size()) {
            tell("there is no example");
        } else {
            runExample(lines.subList(from + 1, to));
        }
        lookAtTable(lines);
        System.out.println(wrong == 0 ? "README.md tells what is" : wrong + " faults in README.md");
        if (wrong != 0) {
            System.exit(1);
        }
    }

    private static void tell(String fault) {
        wrong++;
        System.out.println("README.md: " + fault);
    }

    private static void runExample(List<String> lines) throws ReflectiveOperationException {
        SongsAgain x = new SongsAgain();
        int calls = 0;
        for (String line : lines) {
            Matcher typed = TYPED.matcher(line);
            if (typed.find()) {
                for (char letter : typed.group(1).toCharArray()) {
                    x.letter(letter);
                }
            } else if (!line.contains("x.letter(letter)")) {
                calls += runLine(x, line);
            }
        }
        if (calls < 10) {
            tell("the example makes only " + calls + " calls");
        }
    }

    /** The first numbers behind the calls of a line are their answers. */
    private static int runLine(SongsAgain x, String line) throws ReflectiveOperationException {
        Matcher call = CALL.matcher(line);
        Matcher due = NUMBER.matcher(line.substring(Math.max(0, line.indexOf("//"))));
        int calls = 0;
        while (call.find()) {
            calls++;
            long got = answer(x, call.group(1), call.group(2));
            if (!line.contains("//") || !due.find() || Long.parseLong(due.group()) != got) {
                tell(call.group() + " answered " + got + ", but it says: " + line);
            }
        }
        return calls;
    }

    private static long answer(SongsAgain x, String name, String arguments) throws ReflectiveOperationException {
        String[] parts = arguments.isEmpty() ? new String[0] : arguments.split(", ");
        Class<?>[] types = new Class<?>[parts.length];
        Object[] values = new Object[parts.length];
        for (int i = 0; i < parts.length; i++) {
            types[i] = int.class;
            values[i] = Integer.valueOf(parts[i]);
        }
        return ((Number) SongsAgain.class.getMethod(name, types).invoke(x, values)).longValue();
    }

    private static void lookAtTable(List<String> lines) {
        TreeSet<String> told = new TreeSet<>();
        for (String line : lines) {
            Matcher row = ROW.matcher(line);
            if (row.matches() && !told.add(row.group(1) + " of " + numberOf(row.group(2)))) {
                tell(row.group(1) + " stands twice in the table");
            }
        }
        TreeSet<String> due = new TreeSet<>();
        for (Method method : SongsAgain.class.getDeclaredMethods()) {
            if (Modifier.isPublic(method.getModifiers())) {
                due.add(method.getName() + " of " + method.getParameterCount());
            }
        }
        if (!told.equals(due)) {
            tell("the table names " + told + ", there are " + due);
        }
    }

    private static int numberOf(String arguments) {
        return arguments.isEmpty() ? 0 : arguments.split(", ").length;
    }
}
