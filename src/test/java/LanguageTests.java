import java.io.IOException;
import java.lang.reflect.Constructor;
import java.lang.reflect.Field;
import java.lang.reflect.Method;
import java.lang.reflect.Modifier;
import java.nio.file.Files;
import java.nio.file.Path;
import java.util.Set;
import java.util.TreeSet;
import java.util.regex.Pattern;

/** The face of the class, and those rules of LANGUAGE.md that its text shows. Run from the project's root. */
public final class LanguageTests {
    private static final Check CHECK = new Check();

    private static final String[] FACE = {
        "int letter(int)", "int blank()", "int fault()", "int board()", "int line(int,int)", "int as(int,int)",
        "int cell(int,int)", "int keeps(int,int)", "int mark(int,int)", "int clear()", "int clue(int,int,int,int)",
        "int left()", "int picture(int)", "int look()", "int odds(int,int)", "int hints(int,int)", "int one()",
        "int see(int,int,boolean)", "int forget()", "int games(int,int,int)", "int image()", "int restore()",
        "int count(int)", "long digest()"};

    private static final String[] RULED_OUT = {
        "\\bthrow\\b", "\\bthrows\\b", "\\btry\\b", "\\bcatch\\b", "\\bfinally\\b", "\\bsynchronized\\b", "\\bassert\\b",
        "->", "::", "\\bimport\\b", "\\bpackage\\b", "\\bSystem\\.(?!arraycopy)", "\\bprotected\\b", "\\bstatic\\s*\\{",
        "Exact\\b", "[^\\x00-\\x7f]", "\"\\s*\\+|\\+\\s*\""};

    public static void main(String[] args) throws IOException {
        face();
        nested();
        String text = Files.readString(Path.of("src/main/java/EdgePicture.java"));
        text(text);
        methodLengths(text);
        CHECK.end("LanguageTests");
    }

    private static String signature(Method method) {
        StringBuilder text = new StringBuilder(method.getReturnType().getName()).append(' ').append(method.getName());
        String comma = "(";
        if (method.getParameterCount() == 0) text.append('(');
        for (Class<?> type : method.getParameterTypes()) {
            text.append(comma).append(type.getName());
            comma = ",";
        }
        return text.append(')').toString();
    }

    private static void face() {
        Set<String> shown = new TreeSet<>();
        Set<String> names = new TreeSet<>();
        for (Method method : EdgePicture.class.getDeclaredMethods()) {
            if (Modifier.isPrivate(method.getModifiers())) continue;
            CHECK.holds(method.getName() + " is public", Modifier.isPublic(method.getModifiers()));
            shown.add(signature(method));
            names.add(method.getName());
        }
        CHECK.holds("the methods of the face: " + shown, shown.equals(new TreeSet<>(Set.of(FACE))));
        for (Method method : EdgePicture.class.getDeclaredMethods()) {
            boolean hidden = Modifier.isPrivate(method.getModifiers());
            CHECK.holds(method.getName() + " is no private name", !hidden || !names.contains(method.getName()));
            CHECK.holds(method.getName() + " takes seven at most", method.getParameterCount() <= 7);
        }
        Constructor<?>[] constructors = EdgePicture.class.getDeclaredConstructors();
        CHECK.due("constructors", constructors.length, 1);
        CHECK.holds("it is public", Modifier.isPublic(constructors[0].getModifiers()));
        Set<String> constants = new TreeSet<>();
        for (Field field : EdgePicture.class.getDeclaredFields()) {
            int modifiers = field.getModifiers();
            if (!Modifier.isPrivate(modifiers)) constants.add(Modifier.toString(modifiers) + " " + field.getName());
            CHECK.holds(field.getName() + ": static is final", !Modifier.isStatic(modifiers) || Modifier.isFinal(modifiers));
        }
        String kind = "public static final ";
        CHECK.holds("constants: " + constants, constants.equals(new TreeSet<>(Set.of(kind + "NONE", kind + "UNKNOWN",
                kind + "OUTSIDE", kind + "STATE", kind + "FULL"))));
        CHECK.due("NONE", EdgePicture.NONE, -1);
        CHECK.due("UNKNOWN", EdgePicture.UNKNOWN, -101);
        CHECK.due("OUTSIDE", EdgePicture.OUTSIDE, -102);
        CHECK.due("STATE", EdgePicture.STATE, -103);
        CHECK.due("FULL", EdgePicture.FULL, -104);
        CHECK.holds("the class is public and final", EdgePicture.class.getModifiers() == (Modifier.PUBLIC | Modifier.FINAL));
    }

    private static void nested() {
        CHECK.holds("twelve classes at most", EdgePicture.class.getDeclaredClasses().length < 12);
        for (Class<?> inside : EdgePicture.class.getDeclaredClasses()) {
            int modifiers = inside.getModifiers();
            CHECK.holds(inside + " is static", Modifier.isStatic(modifiers));
            CHECK.holds(inside + " is not public", !Modifier.isPublic(modifiers) && !Modifier.isProtected(modifiers));
            CHECK.holds(inside + " has twenty fields at most", inside.getDeclaredFields().length <= 20);
            for (Method method : inside.getDeclaredMethods()) {
                CHECK.holds(method + " takes seven at most", method.getParameterCount() <= 7);
            }
        }
    }

    private static String withoutComments(String text) {
        return text.replaceAll("(?s)/\\*.*?\\*/", "").replaceAll("//[^\n]*", "");
    }

    private static void text(String text) {
        String code = withoutComments(text);
        for (String rule : RULED_OUT) {
            CHECK.holds("no " + rule, !Pattern.compile(rule).matcher(code).find());
        }
    }

    /** Some sixty lines a method: from a line that opens one to the line that closes it at the same indent. */
    private static void methodLengths(String text) {
        String[] lines = text.split("\n");
        for (int from = 0; from < lines.length; from++) {
            if (!lines[from].matches("( {4}| {8})\\S.*\\) \\{") || lines[from].contains(" class ")) continue;
            String indent = lines[from].replaceAll("\\S.*", "");
            int to = from;
            while (to < lines.length && !lines[to].equals(indent + "}")) to++;
            CHECK.holds("a short method: " + lines[from].trim(), to - from < 60);
        }
    }
}
