import java.io.File;
import java.io.IOException;
import java.lang.reflect.InvocationTargetException;
import java.lang.reflect.Method;
import java.lang.reflect.Modifier;
import java.nio.file.Files;
import java.nio.file.Path;
import java.util.ArrayList;
import java.util.List;
import java.util.Set;
import java.util.TreeSet;
import java.util.regex.Matcher;
import java.util.regex.Pattern;

/** What README.md says is so: each call that it shows, its table of kinds, the tests that it names. */
public final class ReadmeTest {
    private static final String NEW_OBJECT = "PileHeirs yard = new PileHeirs();";
    private static final Pattern CALL = Pattern.compile(
            "yard\\.(\\w+)\\(([^()]*)\\); +// (-?\\d+|[A-Z]+|throws \\w+)(: .*)?");
    private static final Pattern KIND = Pattern.compile(
            "\\| (\\d) +\\| ([A-Z]+) +\\| ([A-Z]*) +\\|(.*)\\|");
    private static final Pattern NAMED_TEST = Pattern.compile("- `(\\w+Test)`: .*");
    private static final String[] ACTS = {"put", "take", "load", "search", "free"};
    private static final int KINDS = 8;
    private static final Due DUE = new Due();

    private final Set<String> shown = new TreeSet<>();
    private PileHeirs yard;

    public static void main(String[] args) throws IOException, ReflectiveOperationException {
        Path project = Path.of(System.getProperty("project", "."));
        List<String> lines = Files.readAllLines(project.resolve("README.md"));
        new ReadmeTest().calls(lines);
        kinds(lines);
        tests(lines, project.resolve("src/test/java").toFile());
        DUE.end("ReadmeTest");
    }

    // ---- the calls

    private void calls(List<String> lines) throws ReflectiveOperationException {
        boolean inJava = false;
        for (String line : lines) {
            if (line.startsWith("```")) {
                inJava = line.equals("```java");
            } else if (inJava) {
                shownLine(line);
            } else {
                DUE.same("a call that no answer stands behind: " + line, line.contains("yard.") ? 1 : 0, 0);
            }
        }
        Set<String> face = new TreeSet<>();
        for (Method method : PileHeirs.class.getDeclaredMethods()) {
            if (Modifier.isPublic(method.getModifiers())) {
                face.add(method.getName());
            }
        }
        DUE.same("the calls that are shown", shown.toString(), face.toString());
    }

    private void shownLine(String line) throws ReflectiveOperationException {
        if (line.equals(NEW_OBJECT)) {
            yard = new PileHeirs();
            return;
        }
        Matcher call = CALL.matcher(line);
        boolean isCall = yard != null && call.matches();
        DUE.same("a line that is a call: " + line, isCall ? 1 : 0, 1);
        if (isCall) {
            shown.add(call.group(1));
            DUE.same(line, answerOf(call.group(1), call.group(2).split(", ")), told(call.group(3)));
        }
    }

    private String answerOf(String name, String[] arguments) throws ReflectiveOperationException {
        for (Method method : PileHeirs.class.getMethods()) {
            if (method.getName().equals(name) && method.getParameterCount() == arguments.length) {
                return answerOf(method, arguments);
            }
        }
        return "no such call";
    }

    private String answerOf(Method method, String[] arguments) throws ReflectiveOperationException {
        Object[] values = new Object[arguments.length];
        for (int i = 0; i < values.length; i++) {
            boolean isTruth = method.getParameterTypes()[i] == boolean.class;
            values[i] = isTruth ? (Object) Boolean.valueOf(arguments[i]) : Integer.valueOf(arguments[i]);
        }
        try {
            return method.invoke(yard, values).toString();
        } catch (InvocationTargetException e) {
            return "throws " + e.getCause().getClass().getSimpleName();
        }
    }

    /** A code is told by its name, all else as it is answered. */
    private static String told(String answer) throws ReflectiveOperationException {
        boolean isName = answer.matches("[A-Z]+");
        return isName ? PileHeirs.class.getField(answer).get(null).toString() : answer;
    }

    // ---- the table of kinds

    private static void kinds(List<String> lines) {
        List<String> names = new ArrayList<>();
        for (String line : lines) {
            Matcher row = KIND.matcher(line);
            if (row.matches()) {
                int kind = names.size();
                DUE.same("the number in " + line, Integer.parseInt(row.group(1)), kind);
                names.add(row.group(2));
                for (int act = 0; act < ACTS.length; act++) {
                    ruleOf(kind, act, names.indexOf(row.group(3)), row.group(4).contains("`" + ACTS[act] + "`"));
                }
            }
        }
        DUE.same("how many kinds the table has", names.size(), KINDS);
    }

    /** The rule that begins an act is the kind's own if it tells one, else that of the kind below. */
    private static void ruleOf(int kind, int act, int under, boolean tells) {
        int first = firstRule(kind, act);
        int due = tells ? 10 * act + kind : firstRule(under, act);
        DUE.same("the rule of kind " + kind + " for " + ACTS[act], first, due);
    }

    private static int firstRule(int kind, int act) {
        Yard x = new Yard();
        x.pile(kind, 3, 100);
        x.timber(10, 2, false);
        if (act != 0) {
            x.put(0, 0);
        }
        int before = x.count(2);
        switch (act) {
            case 0: x.put(0, 0); break;
            case 1: x.take(0); break;
            case 2: x.load(0); break;
            case 3: x.search(0, 10); break;
            default: x.free(0); break;
        }
        return x.trace(x.count(2) - before - 1);
    }

    // ---- the tests

    private static void tests(List<String> lines, File folder) {
        Set<String> named = new TreeSet<>();
        for (String line : lines) {
            Matcher test = NAMED_TEST.matcher(line);
            if (test.matches()) {
                named.add(test.group(1));
            }
        }
        Set<String> there = new TreeSet<>();
        String[] files = folder.list();
        for (String file : files == null ? new String[0] : files) {
            if (file.endsWith("Test.java")) {
                there.add(file.substring(0, file.length() - ".java".length()));
            }
        }
        DUE.same("the tests that are named", named.toString(), there.toString());
    }
}
