import java.io.IOException;
import java.lang.reflect.Method;
import java.lang.reflect.Modifier;
import java.nio.file.Files;
import java.nio.file.Path;
import java.util.ArrayList;
import java.util.Arrays;
import java.util.List;
import java.util.Set;
import java.util.TreeSet;
import java.util.regex.Matcher;
import java.util.regex.Pattern;

/** What README.md says of the class: the calls of its tables are the face, and its example's answers are due. */
public final class ReadmeTest {
    private static final Due DUE = new Due("ReadmeTest");
    private static final Pattern ROW = Pattern.compile("\\| `((?:int|long) (\\w+)\\(.*?\\))` \\|.*");
    private static final Pattern CALL = Pattern.compile("desk\\.(\\w+)\\((.*?)\\); *// (NONE|-?\\d+)(?::.*)?");
    private static final String MADE = "BigDesk desk = new BigDesk();";

    public static void main(String[] args) throws IOException, ReflectiveOperationException {
        List<String> lines = Files.readAllLines(Path.of("README.md"));
        tablesAreTheFace(lines);
        answersOfTheExample(lines);
        DUE.is("the command for the tests is told", true, lines.contains("    .ci/run"));
        DUE.is("the command for the tests can be run", true, Files.isExecutable(Path.of(".ci/run")));
        DUE.end();
    }

    private static void tablesAreTheFace(List<String> lines) {
        List<String> told = new ArrayList<>();
        for (String line : lines) {
            Matcher row = ROW.matcher(line);
            if (row.matches()) {
                told.add(row.group(1).replaceAll(" \\w+(?=[,)])", ""));
            }
        }
        Set<String> face = new TreeSet<>();
        for (Method method : BigDesk.class.getDeclaredMethods()) {
            if (Modifier.isPublic(method.getModifiers())) {
                String types = Arrays.toString(method.getParameterTypes()).replace('[', '(').replace(']', ')');
                face.add(method.getReturnType() + " " + method.getName() + types);
            }
        }
        DUE.is("calls in the tables", face, new TreeSet<>(told));
        DUE.is("rows of the tables", face.size(), told.size());
    }

    private static void answersOfTheExample(List<String> lines) throws ReflectiveOperationException {
        int start = lines.indexOf("```java") + 1;
        int end = start + lines.subList(start, lines.size()).indexOf("```");
        DUE.is("the example's first line", MADE, lines.get(start));
        BigDesk desk = new BigDesk();
        for (String line : lines.subList(start + 1, end)) {
            if (!line.isEmpty()) {
                answerOfLine(desk, line);
            }
        }
    }

    private static void answerOfLine(BigDesk desk, String line) throws ReflectiveOperationException {
        Matcher call = CALL.matcher(line);
        boolean told = call.matches();
        DUE.is("a call and its answer in: " + line, true, told);
        if (told) {
            String answer = call.group(3);
            long want = answer.equals("NONE") ? BigDesk.NONE : Long.parseLong(answer);
            DUE.is(line, want, answerOf(desk, call.group(1), call.group(2).split(", ")));
        }
    }

    private static long answerOf(BigDesk desk, String name, String... given) throws ReflectiveOperationException {
        for (Method method : BigDesk.class.getMethods()) {
            Class<?>[] types = method.getParameterTypes();
            if (method.getName().equals(name) && types.length == given.length) {
                Object[] values = new Object[given.length];
                for (int i = 0; i < given.length; i++) {
                    long value = Long.parseLong(given[i]);
                    values[i] = types[i] == int.class ? (Object) Math.toIntExact(value) : (Object) value;
                }
                return ((Number) method.invoke(desk, values)).longValue();
            }
        }
        throw new NoSuchMethodException(name);
    }
}
