import java.io.IOException;
import java.lang.reflect.Constructor;
import java.lang.reflect.Field;
import java.lang.reflect.Method;
import java.lang.reflect.Modifier;
import java.nio.file.Files;
import java.nio.file.Path;
import java.util.Arrays;
import java.util.TreeSet;
import java.util.Set;
import java.util.regex.Matcher;
import java.util.regex.Pattern;

/** The face of the class as the document tells it, and its text by the rules of LANGUAGE.md that a text shows. */
public final class FaceTest {
    private static final Set<String> FACE = new TreeSet<>(Arrays.asList(
        "int feed(long, long, long)", "int book()", "int notes()", "int term(int, int)", "int line(int, int)",
        "int there(int, int)", "int guess(int, int, int)", "int forget(int)", "int tell(int, int)", "int drop(int)",
        "boolean undo()", "int judged(int)", "int fits()", "int entry(int, int)", "int could(int)", "int sure(int)",
        "int fixed()", "int with(int, int, int)", "int least(int)", "int most(int)", "int kinds(int)", "int open()",
        "int has(int, int)", "int ask()", "int learn()", "int bad()", "int off()", "int behind(int)", "int twins()",
        "int idle()", "int drops()", "int misprints()", "int misprint(int)", "boolean turned(int)",
        "boolean alike(int, int)", "int spare()", "int strict(int)", "int chance(int, int)",
        "int rests(int, int, int, int)", "int drafts(int, int, int)", "boolean mark(int, boolean)", "int count(int)"));

    private static final Checks checks = new Checks("FaceTest");

    private FaceTest() {
    }

    public static void main(String[] args) throws IOException {
        face();
        classes();
        text(Files.readString(Path.of("src/main/java/ForeignKnit.java")));
        checks.end();
    }

    private static void face() {
        Class<?> face = ForeignKnit.class;
        checks.due("public and final", face.getModifiers(), Modifier.PUBLIC | Modifier.FINAL);
        Set<String> found = new TreeSet<>();
        for (Method method : face.getDeclaredMethods()) {
            String name = shown(method);
            if (!Modifier.isPrivate(method.getModifiers())) {
                checks.due(name + " is public alone", method.getModifiers(), Modifier.PUBLIC);
                found.add(name);
            }
        }
        missing("in the face", FACE, found);
        missing("not in the document", found, FACE);
        for (Field field : face.getDeclaredFields()) {
            boolean told = field.getName().equals("NONE");
            checks.due(field.getName() + " is private", !Modifier.isPrivate(field.getModifiers()), told);
        }
        Constructor<?>[] all = face.getDeclaredConstructors();
        checks.due("constructors", all.length, 1);
        checks.due("its parameters", all[0].getParameterCount(), 0);
        checks.due("it is public", all[0].getModifiers(), Modifier.PUBLIC);
    }

    private static String shown(Method method) {
        String types = Arrays.toString(method.getParameterTypes());
        return method.getReturnType() + " " + method.getName() + "(" + types.substring(1, types.length() - 1) + ")";
    }

    private static void missing(String what, Set<String> all, Set<String> there) {
        for (String one : all) {
            checks.due(what + ": " + one, there.contains(one), true);
        }
    }

    private static void classes() {
        Set<String> names = new TreeSet<>();
        for (Method method : ForeignKnit.class.getDeclaredMethods()) {
            if (Modifier.isPublic(method.getModifiers())) {
                names.add(method.getName());
            }
        }
        Class<?>[] inside = ForeignKnit.class.getDeclaredClasses();
        checks.due("some twelve classes at most", inside.length + 1 <= 12, true);
        for (Class<?> one : inside) {
            checks.due(one.getName() + " is static", Modifier.isStatic(one.getModifiers()), true);
            int fields = 0;
            for (Field field : one.getDeclaredFields()) {
                boolean isStatic = Modifier.isStatic(field.getModifiers());
                fields += isStatic ? 0 : 1;
                checks.due(one + "." + field.getName() + " is final if static",
                    !isStatic || Modifier.isFinal(field.getModifiers()), true);
            }
            checks.due(one + " has some twenty fields at most", fields <= 20, true);
            for (Method method : one.getDeclaredMethods()) {
                checks.due(one + "." + method.getName() + " has another name than the face's methods",
                    names.contains(method.getName()), false);
                checks.due(one + "." + method.getName() + " takes seven at most", method.getParameterCount() <= 7, true);
            }
        }
    }

    private static void text(String source) {
        String code = source.replaceAll("/\\*(?s:.*?)\\*/|//[^\n]*", "");
        String bare = code.replaceAll("\"[^\"\n]*\"", "\"\"");
        never(bare, "->|::", "a lambda or a method reference");
        never(bare, "\\b(catch|try|finally|synchronized|assert|instanceof|var|volatile|transient|native)\\b", "such a word");
        never(bare, "\"\"\\s*\\+|\\+\\s*\"\"", "texts joined by +");
        never(bare, "while \\(true\\)|for \\(;;", "a loop without an end");
        never(bare, "\\b(System\\.(?!arraycopy)|Thread|Random|Exact\\b)", "a part of the library that is not allowed");
        never(bare, "Arrays\\.(?!fill|copyOf)", "a part of Arrays that is not allowed");
        never(bare, "\\.(hashCode|toString|equals|getClass)\\(", "what every object has");
        Matcher imports = Pattern.compile("import ([^;]+);").matcher(bare);
        while (imports.find()) {
            checks.due("import of " + imports.group(1),
                imports.group(1).equals("java.util.Arrays") || imports.group(1).equals("java.util.NoSuchElementException"),
                true);
        }
        Matcher thrown = Pattern.compile("throw new (\\w+)").matcher(bare);
        while (thrown.find()) {
            checks.due("throw of " + thrown.group(1), thrown.group(1).equals("NoSuchElementException"), true);
        }
        for (char sign : source.toCharArray()) {
            if (sign > 126) {
                checks.due("a sign beyond 126", sign, 0);
            }
        }
        methodsAreShort(code);
    }

    private static void never(String code, String pattern, String what) {
        Matcher found = Pattern.compile(pattern).matcher(code);
        checks.due(what, found.find() ? 1 + found.start() : 0, 0);
    }

    private static void methodsAreShort(String code) {
        String[] lines = code.split("\n");
        int begin = -1;
        String indent = "";
        for (int i = 0; i < lines.length; i++) {
            Matcher head = Pattern.compile("^( {4}| {8})(?! )[^=;]*\\)( throws \\w+)? \\{$").matcher(lines[i]);
            if (head.find()) {
                begin = i;
                indent = head.group(1);
            } else if (begin >= 0 && lines[i].equals(indent + "}")) {
                checks.due("the method of line " + (begin + 1) + " has sixty lines at most", i - begin + 1 <= 60, true);
                begin = -1;
            }
        }
    }
}
