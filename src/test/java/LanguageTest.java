import java.io.IOException;
import java.lang.reflect.Constructor;
import java.lang.reflect.Field;
import java.lang.reflect.Method;
import java.lang.reflect.Modifier;
import java.nio.file.Files;
import java.nio.file.Path;
import java.util.ArrayList;
import java.util.Arrays;
import java.util.List;
import java.util.Map;
import java.util.Set;
import java.util.TreeMap;
import java.util.TreeSet;
import java.util.regex.Matcher;
import java.util.regex.Pattern;

/** Those rules of LANGUAGE.md that the text of the program and its class file show. */
public final class LanguageTest {
    private static final Pattern CALL = Pattern.compile("\\b([a-z]\\w*)\\(");
    private static final Set<String> NO_CALLS = Set.of("if", "for", "while", "switch");
    private static final String[] FACE = {
        "boolean width(int,int)", "boolean state(int,int,int,int)", "int branch(int,int,int,int)",
        "int operation(int,int,int,int)", "boolean keys(int,int,int,int,int)",
        "boolean entry(int,int,int,int,int,int)", "boolean match(int,int,int,int,int)",
        "boolean erase(int,int)", "int step(int,int,int,int)", "int order(int)", "int clear(int,int)",
        "int type(int)", "int send(int)", "int out(int)", "int field(int)", "int last(int)",
        "int taken(int,int)", "int register(int,boolean,int)", "int count(int)",
        "boolean set(int,int,int,int)", "int tick(int)", "int fetch(int)", "int got(int)",
        "int port(int,int)", "int tokens(int)"};

    private static final Check check = new Check();

    private LanguageTest() {
    }

    public static void main(String[] args) throws IOException {
        Path root = Path.of(args.length > 0 ? args[0] : ".");
        String text = Files.readString(root.resolve("src/main/java/SwitchDesk.java"));
        String code = text.replaceAll("(?s)/\\*.*?\\*/", "").replaceAll("//[^\n]*", "");
        members();
        fields();
        words(code);
        arrays(code);
        methods(code);
        check.finish();
    }

    private static String types(Class<?>[] parameters) {
        List<String> names = new ArrayList<>();
        for (Class<?> one : parameters) names.add(one.getName());
        return "(" + String.join(",", names) + ")";
    }

    private static void members() {
        check.part("rule 1");
        Class<?> desk = SwitchDesk.class;
        check.due("public and final", desk.getModifiers(), Modifier.PUBLIC | Modifier.FINAL);
        check.due("no nested class", desk.getDeclaredClasses().length, 0);
        Set<String> face = new TreeSet<>();
        Set<String> names = new TreeSet<>();
        for (Method m : desk.getDeclaredMethods()) {
            if (!Modifier.isPublic(m.getModifiers())) continue;
            face.add(m.getReturnType().getName() + " " + m.getName() + types(m.getParameterTypes()));
            names.add(m.getName());
            check.no("static " + m.getName(), Modifier.isStatic(m.getModifiers()));
        }
        check.yes("the face: " + face, face.equals(new TreeSet<>(Arrays.asList(FACE))));
        for (Method m : desk.getDeclaredMethods()) {
            if (Modifier.isPublic(m.getModifiers())) continue;
            check.yes("private " + m.getName(), Modifier.isPrivate(m.getModifiers()));
            check.no("name of a public one: " + m.getName(), names.contains(m.getName()));
            check.yes("rule 10, parameters of " + m.getName(), m.getParameterCount() <= 7);
        }
        Constructor<?>[] makers = desk.getDeclaredConstructors();
        check.due("constructors", makers.length, 1);
        check.due("its parameters", makers[0].getParameterCount(), 0);
        check.yes("public", Modifier.isPublic(makers[0].getModifiers()));
    }

    private static void fields() {
        check.part("rules 1, 2, 5 and 10");
        Set<String> constants = new TreeSet<>();
        int ofObject = 0;
        for (Field f : SwitchDesk.class.getDeclaredFields()) {
            Class<?> type = f.getType().isArray() ? f.getType().getComponentType() : f.getType();
            check.yes("type of " + f.getName(), type.isPrimitive());
            check.no("no fraction: " + f.getName(), type == float.class || type == double.class);
            if (Modifier.isPublic(f.getModifiers())) constants.add(f.getName());
            else check.yes("private " + f.getName(), Modifier.isPrivate(f.getModifiers()));
            if (Modifier.isStatic(f.getModifiers())) {
                check.yes("constant " + f.getName(), Modifier.isFinal(f.getModifiers()));
                check.yes("int or long " + f.getName(), f.getType() == int.class || f.getType() == long.class);
            } else {
                ofObject++;
            }
        }
        check.yes("constants", constants.equals(Set.of("NONE", "REFUSED", "OUT", "DROPPED", "REJECTED")));
        check.yes("some forty fields: " + ofObject, ofObject <= 40);
    }

    private static void words(String code) {
        check.part("rules 2, 3, 6 and 11");
        String[] banned = {"import", "package", "throw", "throws", "try", "catch", "finally", "synchronized",
            "assert", "instanceof", "null", "float", "double", "String", "Math", "Integer", "Long", "System",
            "Arrays", "Object", "Thread", "interface", "enum", "record", "extends", "implements", "var",
            "hashCode", "equals", "toString", "getClass", "clone"};
        for (String word : banned) {
            check.no("the word " + word, Pattern.compile("\\b" + word + "\\b").matcher(code).find());
        }
        check.no("a member of another object", Pattern.compile("\\w\\.\\w").matcher(code).find());
        for (String sign : new String[] {"->", "::", "\"", "'", "@", "..."}) {
            check.no("the sign " + sign, code.contains(sign));
        }
        check.no("no static initialiser", Pattern.compile("static\\s*\\{").matcher(code).find());
    }

    private static void arrays(String code) {
        check.part("rule 4");
        Pattern made = Pattern.compile("    private final (int|long|boolean)\\[\\] \\w+ = new \\1\\[[A-Z_0-9]+\\];");
        int fine = 0;
        for (String line : code.split("\n")) {
            if (made.matcher(line).matches()) fine++;
        }
        int all = code.split("\\bnew\\b", -1).length - 1;
        check.due("every array is made by a field", all, fine);
        check.due("no array as type elsewhere", code.split("\\[\\]", -1).length - 1, fine);
    }

    private static void methods(String code) {
        check.part("rules 8 and 10");
        Map<String, String> bodies = new TreeMap<>();
        Pattern head = Pattern.compile("(?m)^    (?:public|private)[\\w ]* (\\w+)\\(([^)]*)\\) \\{$");
        Matcher at = head.matcher(code);
        while (at.find()) {
            int end = code.indexOf("\n    }\n", at.end());
            String body = code.substring(at.end(), end);
            bodies.put(at.group(1), body);
            check.yes("length of " + at.group(1), body.split("\n").length <= 60);
        }
        int declared = SwitchDesk.class.getDeclaredMethods().length + 1;
        check.due("methods found", bodies.size(), declared);
        Map<String, Integer> depth = new TreeMap<>();
        for (int round = 0; round < declared; round++) {
            for (Map.Entry<String, String> one : bodies.entrySet()) {
                int deepest = 0;
                for (String name : callsIn(one.getValue())) {
                    check.yes("a method of the class: " + name, bodies.containsKey(name));
                    deepest = Math.max(deepest, depth.getOrDefault(name, 1));
                }
                depth.put(one.getKey(), deepest + 1);
            }
        }
        for (Map.Entry<String, Integer> one : depth.entrySet()) {
            check.yes("depth of " + one.getKey() + ": " + one.getValue(), one.getValue() <= 6);
        }
        for (Map.Entry<String, String> one : bodies.entrySet()) {
            check.no("a call inside a call's arguments in " + one.getKey(), callInCall(one.getValue()));
        }
    }

    private static List<String> callsIn(String body) {
        List<String> names = new ArrayList<>();
        Matcher at = CALL.matcher(body);
        while (at.find()) {
            if (!NO_CALLS.contains(at.group(1))) names.add(at.group(1));
        }
        return names;
    }

    private static boolean callInCall(String body) {
        Matcher at = CALL.matcher(body);
        while (at.find()) {
            if (NO_CALLS.contains(at.group(1))) continue;
            int open = 1;
            int end = at.end();
            while (open > 0) {
                char sign = body.charAt(end++);
                open += sign == '(' ? 1 : sign == ')' ? -1 : 0;
            }
            if (!callsIn(body.substring(at.end(), end)).isEmpty()) return true;
        }
        return false;
    }
}
