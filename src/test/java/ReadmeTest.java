import java.lang.reflect.InvocationTargetException;
import java.lang.reflect.Method;
import java.lang.reflect.Modifier;
import java.nio.file.Files;
import java.nio.file.Path;
import java.util.ArrayList;
import java.util.HashMap;
import java.util.List;
import java.util.Map;
import java.util.Set;
import java.util.TreeSet;
import java.util.regex.Matcher;
import java.util.regex.Pattern;
import java.util.stream.Stream;

/** README.md is as the class answers, shows every call, and tells to run the tests as .ci/run does. */
public final class ReadmeTest {
    private static final Path README = Path.of("README.md");
    private static final Path SCRIPT = Path.of(".ci/run");
    private static final Path TESTS = Path.of("src/test/java");
    private static final String[] ERRORS = {"BEYOND", "NONE", "STATE", "FULL", "KIND"};
    private static final int LOW = -1000000000;

    private static final String A_NEW_ONE = "RaddleMarks x = new RaddleMarks();";
    private static final Pattern A_CALL = Pattern.compile("x\\.(\\w+)\\(([^)]*)\\); +// (-?\\d+)(?:: (.*))?");
    private static final Pattern A_TEST = Pattern.compile("`(\\w+Test)`");
    private static final Pattern A_ROW = Pattern.compile("(?m)^\\| (\\d) \\| (-?\\d+) \\| (\\w+) \\|");

    private static int asked;
    private static int wrong;

    private static void due(String what, Object got, Object want) {
        asked++;
        if (!got.equals(want)) {
            wrong++;
            System.out.println("README: " + what + " is " + got + ", due is " + want);
        }
    }

    public static void main(String[] args) throws Exception {
        String page = Files.readString(README);
        askCalls(blocks(page, "java"));
        askErrors(page);
        askTestsNamed(page);
        askWayToRun(blocks(page, "sh"));
        System.out.println("README: " + asked + " asked, " + wrong + " wrong");
        if (wrong != 0) {
            System.exit(1);
        }
    }

    private static List<String> blocks(String page, String language) {
        List<String> all = new ArrayList<>();
        Matcher block = Pattern.compile("(?s)```" + language + "\n(.*?)```").matcher(page);
        while (block.find()) {
            all.add(block.group(1));
        }
        return all;
    }

    // ---- calls

    private static void askCalls(List<String> blocks) throws Exception {
        Map<String, Method> face = face();
        Set<String> shown = new TreeSet<>();
        RaddleMarks x = null;
        for (String line : String.join("", blocks).split("\n")) {
            if (line.equals(A_NEW_ONE)) {
                x = new RaddleMarks();
                continue;
            }
            Matcher call = A_CALL.matcher(line);
            boolean isCall = call.matches() && x != null && face.containsKey(call.group(1));
            due("a call with its answer: " + line, isCall, true);
            if (isCall) {
                shown.add(call.group(1));
                long want = Long.parseLong(call.group(3));
                due(line, answer(x, face.get(call.group(1)), call.group(2)), want);
                askNameOfError(line, want, call.group(4));
            }
        }
        due("calls shown", shown, new TreeSet<>(face.keySet()));
    }

    private static Map<String, Method> face() {
        Map<String, Method> face = new HashMap<>();
        for (Method method : RaddleMarks.class.getDeclaredMethods()) {
            if (Modifier.isPublic(method.getModifiers())) {
                face.put(method.getName(), method);
            }
        }
        return face;
    }

    private static long answer(RaddleMarks x, Method method, String list)
            throws IllegalAccessException, InvocationTargetException {
        String[] texts = list.isEmpty() ? new String[0] : list.split(", ");
        Object[] arguments = new Object[texts.length];
        for (int i = 0; i < texts.length; i++) {
            long v = Long.decode(texts[i].replace("L", ""));
            if (method.getParameterTypes()[i] == long.class) {
                arguments[i] = v;
            } else {
                arguments[i] = (int) v;
            }
        }
        return (int) method.invoke(x, arguments);
    }

    private static void askNameOfError(String line, long answer, String words) {
        long k = LOW - answer;
        if (k >= 1 && k <= ERRORS.length) {
            String name = ERRORS[(int) k - 1];
            due("the ERROR named in: " + line, words != null && words.startsWith(name), true);
        }
    }

    private static void askErrors(String page) {
        Matcher row = A_ROW.matcher(page);
        int rows = 0;
        while (row.find() && rows < ERRORS.length) {
            due("k of an ERROR", row.group(1), "" + (rows + 1));
            due("an ERROR's answer", row.group(2), "" + (LOW - 1 - rows));
            due("an ERROR's name", row.group(3), ERRORS[rows]);
            rows++;
        }
        due("rows of ERRORS", rows, ERRORS.length);
    }

    // ---- tests

    private static void askTestsNamed(String page) throws Exception {
        Set<String> named = new TreeSet<>();
        Matcher test = A_TEST.matcher(page);
        while (test.find()) {
            named.add(test.group(1));
        }
        Set<String> standing = new TreeSet<>();
        try (Stream<Path> files = Files.list(TESTS)) {
            files.map(f -> f.getFileName().toString()).filter(f -> f.endsWith(".java"))
                .forEach(f -> standing.add(f.substring(0, f.length() - ".java".length())));
        }
        due("tests named", named, standing);
    }

    private static void askWayToRun(List<String> blocks) throws Exception {
        due("ways to run tests", blocks.size(), 2);
        if (blocks.size() != 2) {
            return;
        }
        due("the way to run all", blocks.get(0).trim(), SCRIPT.toString());
        due(SCRIPT + " can be run", Files.isExecutable(SCRIPT), true);
        String script = Files.readString(SCRIPT);
        for (String line : blocks.get(1).split("\n")) {
            boolean isOneOfBoth = line.startsWith("class=") || line.startsWith("javac ");
            due("stands in " + SCRIPT + ": " + line, !isOneOfBoth || script.contains(line), true);
        }
        due("the way to run one", exitOf(blocks.get(1) + "ended=$?\nrm -rf \"$dir\"\nexit $ended\n"), 0);
    }

    private static int exitOf(String commands) throws Exception {
        Process shell = new ProcessBuilder("sh", "-c", commands).inheritIO().start();
        return shell.waitFor();
    }
}
