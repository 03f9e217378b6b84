import java.io.ByteArrayOutputStream;
import java.io.IOException;
import java.io.PrintStream;
import java.lang.reflect.Method;
import java.lang.reflect.Modifier;
import java.net.URL;
import java.net.URLClassLoader;
import java.nio.charset.StandardCharsets;
import java.nio.file.Files;
import java.nio.file.Path;
import java.util.ArrayList;
import java.util.Collections;
import java.util.List;
import java.util.regex.Matcher;
import java.util.regex.Pattern;
import java.util.stream.Stream;
import javax.tools.ToolProvider;

/** What README.md says: its example, its tables of calls and settings, its list of tests. */
public final class ReadmeTests {
    private static final Path README = Path.of("README.md");
    private static final Path TESTS = Path.of("src/test/java");
    private static final Path CLASS = Path.of("src/main/java/OrganCorners.java");

    private ReadmeTests() {
    }

    public static void main(String[] args) throws IOException, ReflectiveOperationException {
        String readme = Files.readString(README);
        example(readme);
        calls(readme);
        undoable(readme);
        properties(readme);
        settings(readme);
        reasons(readme);
        orders(readme);
        tests(readme);
        files(readme);
        Checks.end("ReadmeTests");
    }

    private static void dueText(String what, String got, String want) {
        Checks.due(what + " [" + got + " / " + want + "]", got.equals(want) ? 1 : 0, 1);
    }

    /** The texts that groups 1, 2 and so on of a pattern found, a row for each place. */
    private static List<String[]> found(String pattern, String text) {
        List<String[]> rows = new ArrayList<>();
        Matcher matcher = Pattern.compile(pattern, Pattern.MULTILINE).matcher(text);
        while (matcher.find()) {
            String[] row = new String[matcher.groupCount()];
            for (int group = 0; group < row.length; group++) {
                row[group] = matcher.group(group + 1);
            }
            rows.add(row);
        }
        return rows;
    }

    /** "Each comment begins with what its line prints" */
    private static void example(String readme) throws IOException, ReflectiveOperationException {
        String code = found("^```java\n([^`]*)```", readme).get(0)[0];
        StringBuilder due = new StringBuilder();
        for (String[] row : found("println\\(.*\\); +// ([^:]*):", code)) {
            due.append(row[0]).append('\n');
        }
        int printing = code.split("println", -1).length - 1;
        Checks.due("example: comments", due.toString().split("\n").length, printing);
        dueText("example", outputOf(code), due.toString());
    }

    private static String outputOf(String code) throws IOException, ReflectiveOperationException {
        Path folder = Files.createTempDirectory("example");
        Path source = folder.resolve("Example.java");
        Files.writeString(source, code);
        int failed = ToolProvider.getSystemJavaCompiler().run(null, null, null, "-Xlint:all",
                "-Werror", "-d", folder.toString(), CLASS.toString(), source.toString());
        Checks.due("example: compiler", failed, 0);
        ByteArrayOutputStream output = new ByteArrayOutputStream();
        PrintStream before = System.out;
        ClassLoader platform = ClassLoader.getPlatformClassLoader();
        try (URLClassLoader loader = new URLClassLoader(new URL[] {folder.toUri().toURL()}, platform);
                PrintStream caught = new PrintStream(output, true, StandardCharsets.UTF_8)) {
            System.setOut(caught);
            loader.loadClass("Example").getMethod("main", String[].class)
                    .invoke(null, (Object) new String[0]);
        } finally {
            System.setOut(before);
            remove(folder);
        }
        return output.toString(StandardCharsets.UTF_8).replace("\r\n", "\n");
    }

    private static void remove(Path folder) throws IOException {
        List<Path> paths = new ArrayList<>();
        try (Stream<Path> walk = Files.walk(folder)) {
            walk.forEach(paths::add);
        }
        Collections.reverse(paths);
        for (Path path : paths) {
            Files.delete(path);
        }
    }

    private static final String CALL = "^\\| `(\\w+)\\(([\\w, ]*)\\)`( \\*)? \\| (.*) \\| (.*) \\|$";

    /** One row for each call of the face, with its parameters and its exceptions in order. */
    private static void calls(String readme) {
        List<String> told = new ArrayList<>();
        for (String[] row : found(CALL, readme)) {
            int parameters = row[1].isEmpty() ? 0 : row[1].split(", ").length;
            told.add(row[0] + " " + parameters + exceptions(row[4]));
        }
        List<String> due = new ArrayList<>();
        for (Method method : OrganCorners.class.getDeclaredMethods()) {
            if (Modifier.isPublic(method.getModifiers())) {
                StringBuilder row = new StringBuilder();
                row.append(method.getName()).append(' ').append(method.getParameterCount());
                for (Class<?> type : method.getExceptionTypes()) {
                    row.append(' ').append(type.getSimpleName());
                }
                due.add(row.toString());
            }
        }
        Collections.sort(told);
        Collections.sort(due);
        dueText("rows of calls", told.toString(), due.toString());
    }

    private static String exceptions(String cell) {
        StringBuilder names = new StringBuilder();
        for (String[] word : found("(?:^|; )(index|argument|state|nothing)\\b", cell)) {
            names.append(word[0].equals("index") ? " IndexOutOfBoundsException"
                    : word[0].equals("argument") ? " IllegalArgumentException"
                    : word[0].equals("state") ? " IllegalStateException" : "");
        }
        return names.toString();
    }

    /** "Calls with a * are undoable." */
    private static void undoable(String readme) throws ReflectiveOperationException {
        List<String> told = new ArrayList<>();
        for (String[] row : found(CALL, readme)) {
            if (row[2] != null) {
                told.add(row[0]);
            }
        }
        List<String> due = new ArrayList<>();
        for (Method method : OrganCorners.class.getDeclaredMethods()) {
            if (Modifier.isPublic(method.getModifiers())) {
                OrganCorners town = Towns.pairWithText("next");
                town.set(0, 20);
                int left = town.undo();
                method.invoke(town, arguments(method));
                if (town.count(15) == left + 1) {
                    due.add(method.getName());
                }
            }
        }
        Collections.sort(told);
        Collections.sort(due);
        dueText("undoable calls", told.toString(), due.toString());
    }

    /** Arguments that each call allows. */
    private static Object[] arguments(Method method) {
        Object[] arguments = new Object[method.getParameterCount()];
        for (int i = 0; i < arguments.length; i++) {
            if (method.getParameterTypes()[i] == boolean.class) {
                arguments[i] = true;
            } else {
                arguments[i] = method.getName().equals("append") ? 100 : 1;
            }
        }
        return arguments;
    }

    private interface Asked {
        int ask(OrganCorners town, int what);
    }

    /** The numbers of what can be asked, in the rows of calls: all from 0 on, and no other. */
    private static void properties(String readme) {
        dueNumbers(readme, "corner", (town, what) -> town.corner(0, what));
        dueNumbers(readme, "organ", (town, what) -> town.organ(0, what));
        dueNumbers(readme, "player", (town, what) -> town.player(0, what));
        dueNumbers(readme, "count", OrganCorners::count);
        dueNumbers(readme, "most", OrganCorners::most);
    }

    private static void dueNumbers(String readme, String call, Asked asked) {
        OrganCorners town = Towns.busy();
        int answered = 0;
        while (answers(town, asked, answered)) {
            answered++;
        }
        for (String[] row : found(CALL, readme)) {
            if (row[0].equals(call)) {
                List<String[]> numbers = found("(?:^|; )(\\d+): ", row[3]);
                Checks.due("numbers of " + call, numbers.size(), answered);
                for (int i = 0; i < numbers.size(); i++) {
                    dueText("number of " + call, numbers.get(i)[0], Integer.toString(i));
                }
            }
        }
    }

    private static boolean answers(OrganCorners town, Asked asked, int what) {
        try {
            asked.ask(town, what);
            return true;
        } catch (IllegalArgumentException refused) {
            return false;
        }
    }

    /** "| setting | what it is | from | to | at first |" */
    private static void settings(String readme) {
        List<String[]> rows = found("^\\| (\\d) \\| .* \\| (\\d+) \\| (\\d+) \\| (\\d+) \\|$", readme);
        Checks.due("settings", rows.size(), 5);
        for (String[] row : rows) {
            int setting = Integer.parseInt(row[0]);
            int from = Integer.parseInt(row[1]);
            int to = Integer.parseInt(row[2]);
            OrganCorners town = new OrganCorners();
            Checks.due("setting", town.setting(setting), Integer.parseInt(row[3]));
            town.set(setting, from);
            town.set(setting, to);
            Checks.dueThrow("setting under", IllegalArgumentException.class,
                    () -> town.set(setting, from - 1));
            Checks.dueThrow("setting above", IllegalArgumentException.class,
                    () -> town.set(setting, to + 1));
        }
    }

    /** "The reasons against playing a tune are: 1: the organ has no corner; ..." */
    private static void reasons(String readme) {
        String told = readme.substring(readme.indexOf("The reasons against"));
        String[] due = {"no corner", "no crew", "not on its barrel", "played in this hour already",
            "the hour is quiet", "heard nearby"};
        for (int reason = 1; reason <= due.length; reason++) {
            String text = told.replace('\n', ' ').replaceAll(".*?" + reason + ": ([^;.]*)[;.].*", "$1");
            Checks.due("reason " + reason + " [" + text + "]", text.contains(due[reason - 1]) ? 1 : 0, 1);
            OrganCorners town = Towns.pairWithReason(reason);
            Checks.due("reason", town.whyNot(0, 0), reason);
        }
    }

    /** "`lots`, `wet`, `dry`, `next`, or an organ and a tune as `0:a` ... to `4:j`" */
    private static void orders(String readme) {
        int start = readme.indexOf("The buffer holds orders");
        String told = readme.substring(start, readme.indexOf("`run()` clears it"));
        int orders = 0;
        for (String[] order : found("`([a-z0-9:]+)`", told)) {
            OrganCorners town = new OrganCorners();
            Towns.type(town, order[0]);
            Checks.due("order " + order[0], town.firstError(), order[0].length());
            orders++;
        }
        Checks.due("orders", orders, 6);
    }

    /** A row for each test, and a word for each class beside the tests. */
    private static void tests(String readme) throws IOException {
        List<String> told = new ArrayList<>();
        for (String[] row : found("^\\| `(\\w+Tests)` \\| .+ \\|$", readme)) {
            told.add(row[0]);
        }
        List<String> due = new ArrayList<>();
        try (Stream<Path> files = Files.list(TESTS)) {
            for (Path file : (Iterable<Path>) files::iterator) {
                String name = file.getFileName().toString().replace(".java", "");
                if (name.endsWith("Tests")) {
                    due.add(name);
                }
                Checks.due("told: " + name, readme.contains("`" + name + "`") ? 1 : 0, 1);
            }
        }
        Collections.sort(told);
        Collections.sort(due);
        dueText("rows of tests", told.toString(), due.toString());
    }

    /** Each path that is named in quotes is there, and is as it is said to be. */
    private static void files(String readme) {
        for (String[] path : found("`((?:\\.\\./shared|src)/[\\w./]*)`", readme)) {
            Checks.due("file " + path[0], Files.exists(Path.of(path[0])) ? 1 : 0, 1);
        }
        Checks.due("executable", Files.isExecutable(Path.of(".ci/run")) ? 1 : 0, 1);
    }
}
