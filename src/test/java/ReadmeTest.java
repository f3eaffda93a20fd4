import java.io.File;
import java.io.IOException;
import java.lang.reflect.Method;
import java.lang.reflect.Modifier;
import java.nio.file.Files;
import java.nio.file.Path;
import java.util.Map;
import java.util.Set;
import java.util.TreeMap;
import java.util.TreeSet;
import java.util.regex.Matcher;
import java.util.regex.Pattern;

/** Makes the calls that README.md shows and compares the answers with those that stand behind them. */
public final class ReadmeTest {
    private static final String NEW = "SwitchDesk desk = new SwitchDesk();";
    private static final Pattern CALL = Pattern.compile(
        "desk\\.(\\w+)\\(([^()]*)\\); +// (true|false|OUT|DROPPED|REJECTED|NONE|REFUSED|-?\\d+)(?::.*)?");
    private static final Map<String, Integer> WORDS = Map.of(
        "true", 1, "false", 0,
        "OUT", SwitchDesk.OUT, "DROPPED", SwitchDesk.DROPPED, "REJECTED", SwitchDesk.REJECTED,
        "NONE", SwitchDesk.NONE, "REFUSED", SwitchDesk.REFUSED);

    private static final Check check = new Check();

    private ReadmeTest() {
    }

    public static void main(String[] args) throws IOException, ReflectiveOperationException {
        Path root = Path.of(args.length > 0 ? args[0] : ".");
        String text = Files.readString(root.resolve("README.md"));
        everyMethodIsShown(runExamples(text));
        everyTestIsNamed(root, text);
        check.finish();
    }

    /** Each example is a block of Java that begins with a new desk; answers the names of its methods. */
    private static Set<String> runExamples(String text) throws ReflectiveOperationException {
        Set<String> called = new TreeSet<>();
        SwitchDesk desk = null;
        boolean inside = false;
        int number = 0;
        for (String line : text.split("\n")) {
            number++;
            check.part("README.md line " + number);
            if (line.startsWith("```")) {
                inside = line.equals("```java");
                desk = null;
            } else if (inside && line.equals(NEW)) {
                desk = new SwitchDesk();
            } else if (inside) {
                called.add(makeCall(desk, line));
            }
        }
        return called;
    }

    private static String makeCall(SwitchDesk desk, String line) throws ReflectiveOperationException {
        Matcher call = CALL.matcher(line);
        boolean readable = call.matches() && desk != null && face().containsKey(call.group(1));
        check.yes("a call of a desk with its answer: " + line, readable);
        if (!readable) return "";
        Method method = face().get(call.group(1));
        String said = call.group(3);
        boolean saysTruth = said.equals("true") || said.equals("false");
        check.yes("an answer of its type: " + line, saysTruth == (method.getReturnType() == boolean.class));
        check.due(line, answer(desk, method, call.group(2)), meant(said));
        return method.getName();
    }

    private static Map<String, Method> face() {
        Map<String, Method> face = new TreeMap<>();
        for (Method m : SwitchDesk.class.getDeclaredMethods()) {
            if (Modifier.isPublic(m.getModifiers())) face.put(m.getName(), m);
        }
        return face;
    }

    private static int answer(SwitchDesk desk, Method method, String written)
        throws ReflectiveOperationException {
        String[] parts = written.split(", ");
        Class<?>[] types = method.getParameterTypes();
        Object[] arguments = new Object[parts.length];
        for (int i = 0; i < parts.length; i++) {
            boolean truth = i < types.length && types[i] == boolean.class;
            if (truth) arguments[i] = Boolean.valueOf(parts[i]);
            else arguments[i] = Integer.valueOf(parts[i]);
        }
        Object answer = method.invoke(desk, arguments);
        if (answer instanceof Boolean) return (Boolean) answer ? 1 : 0;
        return (Integer) answer;
    }

    private static int meant(String word) {
        return WORDS.containsKey(word) ? WORDS.get(word) : Integer.parseInt(word);
    }

    private static void everyMethodIsShown(Set<String> called) {
        check.part("README.md");
        for (String name : face().keySet()) check.yes("a call of " + name, called.contains(name));
    }

    private static void everyTestIsNamed(Path root, String text) {
        check.part("README.md");
        File[] files = root.resolve("src/test/java").toFile().listFiles();
        check.yes("tests are there", files != null && files.length > 0);
        for (File one : files) {
            String name = one.getName().replace(".java", "");
            check.yes("names " + name, text.contains("`" + name + "`"));
        }
        check.yes("says how to run the tests", text.contains("\n.ci/run\n"));
    }
}
