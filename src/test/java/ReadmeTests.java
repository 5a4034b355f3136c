import java.io.IOException;
import java.lang.reflect.InvocationTargetException;
import java.net.URL;
import java.net.URLClassLoader;
import java.nio.file.Files;
import java.nio.file.Path;
import java.util.ArrayList;
import java.util.List;
import java.util.Set;
import java.util.TreeSet;
import java.util.regex.Matcher;
import java.util.regex.Pattern;
import java.util.stream.Stream;
import javax.tools.ToolProvider;

/** What README.md shows is so: its runs of calls, its constants, its clues, its list of tests. Run from the project's root. */
public final class ReadmeTests {
    private static final Check CHECK = new Check();
    private static final Pattern CALL = Pattern.compile("(x\\.\\w+\\(.*\\));\\s+// (-?\\d+|[A-Z]+): \\S.*");
    private static final Pattern SETTING = Pattern.compile("EdgePicture x = new EdgePicture\\(\\);|for \\(.*\\) x\\.\\w+\\(.*\\);");
    private static final Pattern CONSTANT = Pattern.compile("`([A-Z]+)`[ (|]+(-\\d+)");
    private static final Pattern KIND = Pattern.compile("\\| `([a-z]\\d+)` +\\| (\\d) ");

    public static void main(String[] args) throws Exception {
        String page = Files.readString(Path.of("README.md"));
        runsOfCalls(page);
        constants(page);
        kinds(page);
        tests(page);
        CHECK.end("ReadmeTests");
    }

    // ---- the runs of calls

    private static List<String> blocks(String page, String language) {
        List<String> all = new ArrayList<>();
        Matcher matcher = Pattern.compile("(?s)```" + language + "\n(.*?)```").matcher(page);
        while (matcher.find()) all.add(matcher.group(1));
        return all;
    }

    /** The block as a class whose method tells of each call what it answers and what the page says of it. */
    private static String source(String name, String block, Set<String> refusals) {
        StringBuilder text = new StringBuilder("public final class " + name + " {\n");
        text.append("  public static void run(java.util.List<Object[]> told) {\n");
        for (String line : block.split("\n")) {
            Matcher call = CALL.matcher(line);
            if (call.matches()) {
                String due = call.group(2);
                boolean named = Character.isUpperCase(due.charAt(0));
                if (named) refusals.add(due);
                text.append("told.add(new Object[] {\"").append(call.group(1)).append("\", (long) ").append(call.group(1))
                        .append(", (long) ").append(named ? "EdgePicture." : "").append(due).append("});\n");
            } else {
                CHECK.holds("README.md has a call and its answer, or what sets it up: " + line, SETTING.matcher(line).matches());
                text.append(line).append('\n');
            }
        }
        return text.append("  }\n}\n").toString();
    }

    private static void runsOfCalls(String page) throws IOException, ReflectiveOperationException {
        List<String> blocks = blocks(page, "java");
        CHECK.holds("README.md shows runs of calls", blocks.size() >= 2);
        Set<String> shown = new TreeSet<>();
        for (int number = 0; number < blocks.size(); number++) runBlock("Shown" + number, blocks.get(number), shown);
        CHECK.holds("README.md shows each refusal: " + shown, shown.containsAll(Set.of("UNKNOWN", "OUTSIDE", "STATE", "FULL")));
    }

    private static void runBlock(String name, String block, Set<String> shown) throws IOException, ReflectiveOperationException {
        Path directory = Files.createTempDirectory("readme");
        try {
            Path file = directory.resolve(name + ".java");
            Files.writeString(file, source(name, block, shown));
            int code = ToolProvider.getSystemJavaCompiler().run(null, null, null, "-cp", System.getProperty("java.class.path"),
                    "-d", directory.toString(), file.toString());
            CHECK.due("the compiler of what README.md shows", code, 0);
            if (code == 0) runCompiled(name, directory);
        } finally {
            remove(directory);
        }
    }

    private static void runCompiled(String name, Path directory) throws IOException, ReflectiveOperationException {
        List<Object[]> told = new ArrayList<>();
        try (URLClassLoader loader = new URLClassLoader(new URL[] {directory.toUri().toURL()})) {
            loader.loadClass(name).getMethod("run", List.class).invoke(null, told);
        } catch (InvocationTargetException thrown) {
            CHECK.holds("no call of README.md throws: " + thrown.getCause(), false);
        }
        CHECK.holds("README.md shows calls", !told.isEmpty());
        for (Object[] one : told) CHECK.due("README.md: " + one[0], (long) one[1], (long) one[2]);
    }

    private static void remove(Path directory) throws IOException {
        try (Stream<Path> files = Files.list(directory)) {
            for (Path file : files.toList()) Files.delete(file);
        }
        Files.delete(directory);
    }

    // ---- what it tells beside them

    private static void constants(String page) throws ReflectiveOperationException {
        Set<String> told = new TreeSet<>();
        Matcher matcher = CONSTANT.matcher(page);
        while (matcher.find()) {
            told.add(matcher.group(1));
            CHECK.due(matcher.group(1), EdgePicture.class.getField(matcher.group(1)).getInt(null), Integer.parseInt(matcher.group(2)));
        }
        CHECK.holds("README.md tells each constant: " + told, told.equals(Set.of("NONE", "UNKNOWN", "OUTSIDE", "STATE", "FULL")));
    }

    private static void kinds(String page) {
        int told = 0;
        Matcher matcher = KIND.matcher(page);
        while (matcher.find()) {
            told++;
            EdgePicture x = Boards.on("44;" + matcher.group(1) + ",c0,c0,c0;c0,c0,c0,c0");
            CHECK.due("the kind of " + matcher.group(1), x.line(0, 0), Integer.parseInt(matcher.group(2)));
        }
        CHECK.due("kinds that README.md tells", told, 5);
    }

    private static void tests(String page) throws IOException {
        try (Stream<Path> files = Files.list(Path.of("src/test/java"))) {
            for (Path file : files.toList()) {
                String name = file.getFileName().toString().replace(".java", "");
                if (name.endsWith("Tests")) CHECK.holds("README.md tells of " + name, page.contains("`" + name + "`"));
            }
        }
        Matcher named = Pattern.compile("`(\\w+Tests)`").matcher(page);
        while (named.find()) {
            CHECK.holds("there is " + named.group(1), Files.exists(Path.of("src/test/java", named.group(1) + ".java")));
        }
        List<String> commands = blocks(page, "sh");
        CHECK.holds("README.md tells one command", commands.size() == 1);
        for (String command : commands) {
            CHECK.holds("it can be run: " + command, Files.isExecutable(Path.of(command.trim())));
        }
    }
}
