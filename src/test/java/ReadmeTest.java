import java.lang.reflect.Field;
import java.lang.reflect.Method;
import java.lang.reflect.Modifier;
import java.nio.file.DirectoryStream;
import java.nio.file.Files;
import java.nio.file.Path;
import java.util.ArrayList;
import java.util.List;
import java.util.regex.Matcher;
import java.util.regex.Pattern;

/** What README.md says of the class, as far as a program can see that: run in the project's folder. */
public final class ReadmeTest {
    private static final Due DUE = new Due("ReadmeTest");
    private static final Pattern EXAMPLE = Pattern.compile("net\\.(\\w+)\\((.*)\\); *// (-?\\d+)(:.*)?");
    private static final Pattern CALL_ROW = Pattern.compile("\\| `(\\w+)\\((.*?)\\)` \\|.*");
    private static final Pattern CONSTANT_ROW = Pattern.compile("\\| `([A-Z]+)` \\| (-\\d+) \\|.*");
    private static final Pattern TEST_ROW = Pattern.compile("\\| (\\w+Test) \\|.*");
    private static final String START = "MindNet net = new MindNet();";

    private final List<String> lines;

    private ReadmeTest(List<String> lines) {
        this.lines = lines;
    }

    public static void main(String[] args) throws Exception {
        ReadmeTest test = new ReadmeTest(Files.readAllLines(Path.of("README.md")));
        test.examples();
        test.callRows();
        test.constantRows();
        test.testRows();
        DUE.close();
    }

    /** The lines of Java, run in their order on one object. */
    private void examples() throws Exception {
        int start = lines.indexOf(START);
        DUE.holds("an object is made", start >= 0);
        MindNet net = new MindNet();
        int ran = 0;
        for (int at = start + 1; at < lines.size() && !lines.get(at).equals("```"); at++) {
            Matcher example = EXAMPLE.matcher(lines.get(at));
            boolean isExample = example.matches();
            DUE.holds("a call and its answer: " + lines.get(at), isExample);
            if (isExample) {
                long answer = call(net, example.group(1), arguments(example.group(2)));
                DUE.is(lines.get(at), answer, Long.parseLong(example.group(3)));
                ran++;
            }
        }
        DUE.holds("examples ran", ran > 20);
    }

    private static String[] arguments(String text) {
        return text.isEmpty() ? new String[0] : text.split(", ");
    }

    private static long call(MindNet net, String name, String[] arguments) throws Exception {
        Method method = face(name);
        Object[] told = new Object[arguments.length];
        for (int at = 0; at < told.length; at++) {
            boolean isNumber = method.getParameterTypes()[at] == int.class;
            told[at] = isNumber ? (Object) Integer.parseInt(arguments[at]) : (Object) arguments[at].equals("true");
        }
        return ((Number) method.invoke(net, told)).longValue();
    }

    private static Method face(String name) {
        for (Method method : MindNet.class.getDeclaredMethods()) {
            if (Modifier.isPublic(method.getModifiers()) && method.getName().equals(name)) {
                return method;
            }
        }
        throw new IllegalStateException("README.md calls " + name + ", which the class does not have");
    }

    private List<Matcher> rows(Pattern pattern) {
        List<Matcher> found = new ArrayList<>();
        for (String line : lines) {
            Matcher row = pattern.matcher(line);
            if (row.matches()) {
                found.add(row);
            }
        }
        return found;
    }

    private void callRows() {
        List<Matcher> rows = rows(CALL_ROW);
        int faces = 0;
        for (Method method : MindNet.class.getDeclaredMethods()) {
            if (Modifier.isPublic(method.getModifiers())) {
                faces++;
                int told = 0;
                for (Matcher row : rows) {
                    boolean isIt = row.group(1).equals(method.getName());
                    told += isIt && arguments(row.group(2)).length == method.getParameterCount() ? 1 : 0;
                }
                DUE.is("rows that tell of " + method.getName(), told, 1);
            }
        }
        DUE.is("rows of calls", rows.size(), faces);
    }

    private void constantRows() throws Exception {
        List<Matcher> rows = rows(CONSTANT_ROW);
        for (Matcher row : rows) {
            Field field = MindNet.class.getField(row.group(1));
            DUE.is(row.group(1), Long.parseLong(row.group(2)), ((Number) field.get(null)).longValue());
        }
        DUE.is("rows of constants", rows.size(), MindNet.class.getFields().length);
    }

    private void testRows() throws Exception {
        List<String> told = new ArrayList<>();
        for (Matcher row : rows(TEST_ROW)) {
            told.add(row.group(1) + ".java");
        }
        int there = 0;
        try (DirectoryStream<Path> files = Files.newDirectoryStream(Path.of("src/test/java"), "*Test.java")) {
            for (Path file : files) {
                there++;
                DUE.holds("a row tells of " + file, told.contains(file.getFileName().toString()));
            }
        }
        DUE.is("rows of tests", told.size(), there);
    }
}
