import java.io.IOException;
import java.lang.reflect.Constructor;
import java.lang.reflect.Field;
import java.lang.reflect.Method;
import java.lang.reflect.Modifier;
import java.nio.file.Files;
import java.nio.file.Path;
import java.util.ArrayList;
import java.util.Arrays;
import java.util.Collections;
import java.util.List;
import java.util.regex.Matcher;
import java.util.regex.Pattern;

/** The face of the document, and those of the language's rules that a text search can see. */
public final class LanguageTests {
    private static final Path SOURCE = Path.of("src/main/java/OrganCorners.java");

    private static final String[] FACE = {
        "int addCorner(int,int,int,int) IllegalArgumentException,IllegalStateException",
        "int addOrgan(int) IllegalArgumentException,IllegalStateException",
        "int addPlayer() IllegalStateException",
        "int permit(int,boolean) IndexOutOfBoundsException",
        "int barrel(int,int) IndexOutOfBoundsException,IllegalArgumentException",
        "int assign(int,int) IndexOutOfBoundsException",
        "int set(int,int) IndexOutOfBoundsException,IllegalArgumentException",
        "int lots() IllegalStateException",
        "int weather(boolean) IllegalStateException",
        "int play(int,int) IndexOutOfBoundsException,IllegalArgumentException,IllegalStateException",
        "int next() ",
        "int append(int) IllegalArgumentException,IllegalStateException",
        "int clearBuffer() ",
        "int firstError() ",
        "int run() IllegalArgumentException",
        "int undo() IllegalStateException",
        "int corner(int,int) IndexOutOfBoundsException,IllegalArgumentException",
        "int organ(int,int) IndexOutOfBoundsException,IllegalArgumentException",
        "int player(int,int) IndexOutOfBoundsException,IllegalArgumentException",
        "int hours(int,int) IndexOutOfBoundsException",
        "int count(int) IllegalArgumentException",
        "int setting(int) IndexOutOfBoundsException",
        "int whyNot(int,int) IndexOutOfBoundsException,IllegalArgumentException",
        "int ifPlayed(int) IndexOutOfBoundsException",
        "int kindestTune(int) IndexOutOfBoundsException",
        "int most(int) IllegalArgumentException",
        "int ifEnded(int) IndexOutOfBoundsException",
        "double playersShare() ",
        "long digest() ",
    };

    private static final String[] BANNED = {
        "\\bimport\\b", "\\bpackage\\b", "\\bcatch\\b", "\\bfinally\\b", "\\bsynchronized\\b",
        "\\bassert\\b", "->", "::", "\\bDouble\\.", "\\bSystem\\.(?!arraycopy\\b)", "Exact\\b",
        "\\bString\\.", "\" *\\+", "\\+ *\"", "\\bstatic \\{", "\\bthread\\b", "\\bRandom\\b",
        "\\bequals\\b|\\bhashCode\\b|\\btoString\\b", "[^\\x00-\\x7f]", "\\bprotected\\b",
    };

    private LanguageTests() {
    }

    public static void main(String[] args) throws IOException {
        String source = Files.readString(SOURCE);
        String code = source.replaceAll("(?s)/\\*.*?\\*/", " ").replaceAll("//[^\n]*", " ");
        face();
        nestedClasses();
        privateNames();
        for (String banned : BANNED) {
            Matcher found = Pattern.compile(banned).matcher(code);
            Checks.due("banned: " + banned, found.find() ? 1 : 0, 0);
        }
        Checks.due("only 1 public class", code.split("public final class").length - 1, 1);
        rowsAreMadeOnce(code);
        throwsAreWritten(code);
        Checks.end("LanguageTests");
    }

    private static void face() {
        int modifiers = OrganCorners.class.getModifiers();
        Checks.due("final", Modifier.isFinal(modifiers) && Modifier.isPublic(modifiers) ? 1 : 0, 1);
        List<String> methods = new ArrayList<>();
        for (Method method : OrganCorners.class.getDeclaredMethods()) {
            if (!Modifier.isPrivate(method.getModifiers()) && !method.isSynthetic()) {
                methods.add(told(method));
                Checks.due(method + " is public alone", method.getModifiers(), Modifier.PUBLIC);
            }
        }
        List<String> due = new ArrayList<>(Arrays.asList(FACE));
        Collections.sort(due);
        Collections.sort(methods);
        Checks.due("face is " + methods, methods.equals(due) ? 1 : 0, 1);
        for (Field field : OrganCorners.class.getDeclaredFields()) {
            int its = field.getModifiers();
            Checks.due("field " + field, Modifier.isPrivate(its) ? 1 : 0,
                    field.getName().equals("NONE") ? 0 : 1);
            Checks.due("static is final " + field,
                    Modifier.isStatic(its) && !Modifier.isFinal(its) ? 1 : 0, 0);
        }
        Constructor<?>[] constructors = OrganCorners.class.getDeclaredConstructors();
        Checks.due("constructors", constructors.length, 1);
        Checks.due("public constructor", constructors[0].getModifiers(), Modifier.PUBLIC);
    }

    private static String told(Method method) {
        StringBuilder told = new StringBuilder();
        told.append(method.getReturnType().getSimpleName()).append(' ').append(method.getName());
        List<String> arguments = new ArrayList<>();
        for (Class<?> type : method.getParameterTypes()) {
            arguments.add(type.getSimpleName());
        }
        List<String> exceptions = new ArrayList<>();
        for (Class<?> type : method.getExceptionTypes()) {
            exceptions.add(type.getSimpleName());
        }
        told.append('(').append(String.join(",", arguments)).append(") ");
        return told.append(String.join(",", exceptions)).toString();
    }

    private static void nestedClasses() {
        Class<?>[] nested = OrganCorners.class.getDeclaredClasses();
        Checks.due("at most 12 classes", nested.length < 12 ? 1 : 0, 1);
        for (Class<?> one : nested) {
            Checks.due("static " + one, Modifier.isStatic(one.getModifiers()) ? 1 : 0, 1);
            Checks.due("private " + one, Modifier.isPrivate(one.getModifiers()) ? 1 : 0, 1);
            int fields = 0;
            for (Field field : one.getDeclaredFields()) {
                fields += Modifier.isStatic(field.getModifiers()) ? 0 : 1;
            }
            Checks.due("at most 20 fields " + one, fields <= 20 ? 1 : 0, 1);
        }
    }

    private static void privateNames() {
        List<String> names = new ArrayList<>();
        for (String method : FACE) {
            names.add(method.replaceAll("^\\w+ (\\w+).*", "$1"));
        }
        List<Class<?>> classes = new ArrayList<>();
        classes.add(OrganCorners.class);
        classes.addAll(Arrays.asList(OrganCorners.class.getDeclaredClasses()));
        for (Class<?> one : classes) {
            for (Method method : one.getDeclaredMethods()) {
                boolean isFace = one == OrganCorners.class
                        && Modifier.isPublic(method.getModifiers());
                Checks.due("name of " + method, !isFace && names.contains(method.getName()) ? 1 : 0, 0);
                Checks.due("parameters of " + method, method.getParameterCount() <= 7 ? 1 : 0, 1);
            }
        }
    }

    /** Calls make no objects but exceptions: all other makings stand in fields and constructors. */
    private static void rowsAreMadeOnce(String code) {
        String inside = "";
        for (String line : code.split("\n")) {
            if (line.matches("    (    )?(public |private |static )*[\\w\\[\\]<>]* ?\\w+\\(.*\\{")) {
                inside = line.trim();
            }
            boolean makes = line.contains("new ") && !line.contains("throw new ");
            boolean isField = line.matches(" +(private |static )*final .*");
            boolean isConstructor = inside.matches("(public )?[A-Z]\\w+\\(.*");
            Checks.due("made by a call: " + line.trim(), makes && !isField && !isConstructor ? 1 : 0, 0);
        }
    }

    private static void throwsAreWritten(String code) {
        Matcher thrown = Pattern.compile("throw\\b[^;]*;").matcher(code);
        while (thrown.find()) {
            Checks.due(thrown.group(), thrown.group().matches(
                    "throw new Illegal(State|Argument)Exception\\(\"[a-z ]*\"\\);"
                    + "|throw new IndexOutOfBoundsException\\(\"[a-z ]*\"\\);") ? 1 : 0, 1);
        }
    }
}
