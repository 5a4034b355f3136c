import java.io.PrintWriter;
import java.io.StringWriter;
import java.util.ArrayList;
import java.util.List;
import java.util.Map;
import java.util.Set;
import java.util.TreeMap;
import java.util.TreeSet;
import java.util.regex.Matcher;
import java.util.regex.Pattern;
import java.util.spi.ToolProvider;

/** Those rules of LANGUAGE.md that the compiled class shows better than its text: who calls whom, what is made where. */
public final class CompiledTests {
    private static final Check CHECK = new Check();
    private static final int DEEPEST = 8;

    /** Of what rule 4 leaves, what the class uses; another one is looked up in the rule first, then put here. */
    private static final Set<String> LIBRARY = Set.of("java/lang/Object.<init>:()V", "java/lang/Math.max:(II)I",
            "java/lang/Integer.bitCount:(I)I", "java/lang/String.indexOf:(I)I");
    private static final Set<String> RECURSIVE = Set.of("EdgePicture.growHints", "EdgePicture$Search.lay");

    private static final Pattern CLASS = Pattern.compile("^(?:\\w+ )*class (\\S+) .*\\{$");
    private static final Pattern METHOD = Pattern.compile("^  (?:[\\w$.\\[\\]]+ )*([\\w$]+)\\(.*\\);$");
    private static final Pattern CODE = Pattern.compile("^ +\\d+: (\\w+)(.*)$");
    private static final Pattern CALLED = Pattern.compile("// (?:Interface)?Method (?:([\\w$/]+)\\.)?\"?([\\w<>]+)\"?:(\\S+)");

    private final Map<String, Set<String>> calls = new TreeMap<>();
    private String className = "";
    private String method = "";

    public static void main(String[] args) {
        new CompiledTests().look();
        CHECK.end("CompiledTests");
    }

    private void look() {
        List<String> classes = new ArrayList<>(List.of("EdgePicture"));
        for (Class<?> inside : EdgePicture.class.getDeclaredClasses()) classes.add(inside.getName());
        for (String line : shown(classes).split("\\R")) take(line);
        CHECK.holds("the calls were found", calls.size() > 60 && calls.get("EdgePicture.digest").contains("EdgePicture.line"));
        for (String one : calls.keySet()) {
            List<String> chain = longestFrom(one, List.of());
            CHECK.holds("no more than " + DEEPEST + " deep: " + chain, chain.size() <= DEEPEST);
            CHECK.holds(one + " calls itself as it is known to", reaches(one, one) == RECURSIVE.contains(one));
        }
    }

    private static String shown(List<String> classes) {
        List<String> arguments = new ArrayList<>(List.of("-p", "-c", "-cp", System.getProperty("java.class.path")));
        arguments.addAll(classes);
        StringWriter text = new StringWriter();
        PrintWriter writer = new PrintWriter(text);
        ToolProvider.findFirst("javap").orElseThrow().run(writer, writer, arguments.toArray(new String[0]));
        return text.toString();
    }

    private void take(String line) {
        Matcher classLine = CLASS.matcher(line);
        Matcher methodLine = METHOD.matcher(line);
        Matcher code = CODE.matcher(line);
        CHECK.holds("nothing is caught in " + method, !line.contains("Exception table"));
        if (classLine.matches()) {
            className = classLine.group(1);
        } else if (methodLine.matches()) {
            String name = methodLine.group(1);
            method = className + "." + (name.equals(className) ? "<init>" : name);
            calls.putIfAbsent(method, new TreeSet<>());
        } else if (code.matches()) {
            takeCode(code.group(1), code.group(2));
        }
    }

    private void takeCode(String code, String rest) {
        boolean makes = code.equals("new") || code.endsWith("newarray");
        CHECK.holds("objects are made in constructors alone, not in " + method, !makes || method.endsWith(".<init>"));
        CHECK.holds(method + " has no " + code, !Set.of("athrow", "monitorenter", "invokedynamic").contains(code));
        Matcher called = CALLED.matcher(rest);
        if (!code.startsWith("invoke") || !called.find()) return;
        String owner = called.group(1) == null ? className : called.group(1);
        if (owner.startsWith("EdgePicture")) {
            calls.get(method).add(owner + "." + called.group(2));
        } else {
            String full = owner + "." + called.group(2) + ":" + called.group(3);
            CHECK.holds(method + " uses of the library " + full, LIBRARY.contains(full));
        }
    }

    /** Recursion counts once: a method that stands open already is not gone into again. */
    private List<String> longestFrom(String one, List<String> open) {
        List<String> here = new ArrayList<>(open);
        here.add(one);
        List<String> longest = here;
        for (String next : calls.getOrDefault(one, Set.of())) {
            if (here.contains(next)) continue;
            List<String> chain = longestFrom(next, here);
            if (chain.size() > longest.size()) longest = chain;
        }
        return longest;
    }

    private boolean reaches(String from, String to) {
        Set<String> found = new TreeSet<>();
        List<String> open = new ArrayList<>(List.of(from));
        while (!open.isEmpty()) {
            for (String next : calls.getOrDefault(open.remove(0), Set.of())) {
                if (found.add(next)) open.add(next);
            }
        }
        return found.contains(to);
    }
}
