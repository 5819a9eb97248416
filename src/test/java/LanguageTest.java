import java.io.IOException;
import java.io.PrintWriter;
import java.io.StringWriter;
import java.lang.reflect.Field;
import java.lang.reflect.Modifier;
import java.nio.file.Files;
import java.nio.file.Path;
import java.util.ArrayList;
import java.util.LinkedHashMap;
import java.util.List;
import java.util.Map;
import java.util.Set;
import java.util.TreeSet;
import java.util.regex.Matcher;
import java.util.regex.Pattern;
import java.util.spi.ToolProvider;

/**
 * The rules of ../shared/LANGUAGE.md that can be counted, looked up in the compiled class: what it calls, where it
 * makes objects, where it uses indexes and divisors, how deep its calls go, how long its methods are. FaceTest has
 * rule 1. What the class does today is written down narrowly here: a change that goes beyond it is to be thought over.
 */
final class LanguageTest {
    private static final Path SOURCE = Path.of("src/main/java/RustRails.java");
    private static final int MAX_DEPTH = 8;
    private static final int MAX_LINES = 60;
    private static final int MAX_PARAMETERS = 7;
    private static final int MAX_CLASSES = 12;
    private static final int MAX_FIELDS = 20;
    private static final Set<String> LIBRARY = Set.of("java/lang/Object.<init>", "java/lang/Math.max",
            "java/lang/Math.min", "java/lang/System.arraycopy", "java/lang/IndexOutOfBoundsException.<init>",
            "java/lang/IllegalArgumentException.<init>", "java/lang/IllegalStateException.<init>");
    // each of these looks at the index first, or counts it against the length
    private static final Set<String> WITH_INDEXES = Set.of("RustRails.at", "RustRails.put", "RustRails.sum",
            "RustRails.fill", "RustRails$Ways.leastAt", "RustRails$History.<init>", "RustRails$History.stateAt",
            "RustRails$Slots.<init>", "RustRails$Slots.stateAt");
    // it looks first if there are tracks and contracts
    private static final Set<String> WITH_OTHER_DIVISORS = Set.of("RustRails$State.dealByChance");
    private static final Set<String> WITH_THROWS = Set.of("RustRails.append", "RustRails.load", "RustRails.about",
            "RustRails.track", "RustRails.company", "RustRails.train", "RustRails.contract", "RustRails.runScript",
            "RustRails.needIndex", "RustRails.needRange", "RustRails.needDifferent", "RustRails.needAllowed");

    private static final Pattern CLASS = Pattern.compile("^(?:[a-z]+ )*class ([\\w$]+) \\{$");
    private static final Pattern METHOD = Pattern.compile("^  (?:[a-z]+ )*(?:[\\w$.\\[\\]]+ )?([\\w$]+)\\((.*?)\\).*;$");
    private static final Pattern CODE = Pattern.compile("^ *\\d+: (\\w+)(.*)$");
    private static final Pattern CALLED = Pattern.compile("// Method (?:([\\w$/]+)\\.)?\"?([\\w<>]+)\"?:");
    private static final Pattern LINE = Pattern.compile("^ *line (\\d+): \\d+$");

    private final Checks checks = new Checks();
    private final Map<String, Set<String>> calls = new LinkedHashMap<>();
    private final List<Class<?>> classes = new ArrayList<>();
    private String owner = "";
    private String method = "";
    private String before = "";
    private int firstLine;

    public static void main(String[] args) throws IOException {
        LanguageTest test = new LanguageTest();
        test.lookAtSource();
        test.lookAtClasses();
        test.lookAtCode();
        test.lookAtDepth();
        test.checks.end();
    }

    private void need(int rule, boolean holds, String what) {
        checks.same("rule " + rule + ", " + owner + "." + method + ": " + what, holds ? "" : "broken", "");
    }

    private void lookAtSource() throws IOException {
        String all = Files.readString(SOURCE);
        need(1, !Pattern.compile("^(package|import)\\b", Pattern.MULTILINE).matcher(all).find(), "package or import");
        need(4, all.chars().allMatch(c -> c == '\n' || c >= 32 && c < 127), "a sign beyond 127");
        need(6, !Pattern.compile("\\b(try|catch|finally|synchronized|assert)\\b[^\\n]*\\{").matcher(all).find(), "try");
    }

    private void lookAtClasses() {
        classes.add(RustRails.class);
        classes.addAll(List.of(RustRails.class.getDeclaredClasses()));
        need(11, classes.size() <= MAX_CLASSES, classes.size() + " classes");
        for (Class<?> one : classes) {
            owner = one.getName();
            int fields = 0;
            for (Field field : one.getDeclaredFields()) {
                boolean isStatic = Modifier.isStatic(field.getModifiers());
                fields += isStatic ? 0 : 1;
                need(5, !isStatic || Modifier.isFinal(field.getModifiers()) && field.getType().isPrimitive(),
                        "static " + field.getName());
            }
            need(11, fields <= MAX_FIELDS, fields + " fields");
            need(2, one == RustRails.class || Modifier.isStatic(one.getModifiers()), "not static");
            need(2, one.getDeclaredClasses().length == 0 || one == RustRails.class, "a class inside it");
        }
    }

    // ---- the code, as javap tells it

    private void lookAtCode() {
        for (String line : javap()) {
            Matcher aClass = CLASS.matcher(line);
            Matcher aMethod = METHOD.matcher(line);
            Matcher code = CODE.matcher(line);
            Matcher lineNumber = LINE.matcher(line);
            if (aClass.matches()) {
                owner = aClass.group(1);
            } else if (aMethod.matches()) {
                beginMethod(aMethod.group(1), aMethod.group(2));
            } else if (lineNumber.matches()) {
                lookAtLine(Integer.parseInt(lineNumber.group(1)));
            } else if (code.matches()) {
                lookAtCode(code.group(1), code.group(2));
                before = code.group(1);
            }
        }
        owner = "";
        method = "";
        need(7, calls.size() > 100, "only " + calls.size() + " methods were found by this test");
    }

    private List<String> javap() {
        StringWriter told = new StringWriter();
        List<String> arguments = new ArrayList<>(List.of("-c", "-p", "-l", "-classpath",
                System.getProperty("java.class.path")));
        for (Class<?> one : classes) {
            arguments.add(one.getName());
        }
        ToolProvider tool = ToolProvider.findFirst("javap").orElseThrow();
        int end = tool.run(new PrintWriter(told), new PrintWriter(told), arguments.toArray(new String[0]));
        checks.same("javap", end + "", "0");
        return told.toString().lines().toList();
    }

    private void beginMethod(String name, String parameters) {
        method = name.equals(owner) ? "<init>" : name;
        firstLine = 0;
        boolean isNew = calls.put(owner + "." + method, new TreeSet<>()) == null;
        // this test tells methods apart by their names alone
        checks.same("a second method of the name " + owner + "." + method, isNew ? "" : "found", "");
        int count = parameters.isEmpty() ? 0 : parameters.split(",").length;
        need(11, count <= MAX_PARAMETERS, count + " parameters");
    }

    private void lookAtLine(int number) {
        // a constructor begins with the fields, so its lines do not tell its length
        if (!method.equals("<init>")) {
            firstLine = firstLine == 0 ? number : Math.min(firstLine, number);
            need(11, number - firstLine < MAX_LINES, "longer than " + MAX_LINES + " lines");
        }
    }

    private void lookAtCode(String code, String rest) {
        String place = owner + "." + method;
        need(2, !code.equals("invokedynamic"), "a lambda, or texts joined by +");
        need(6, !code.equals("athrow") || WITH_THROWS.contains(place), "a throw");
        need(7, !code.equals("checkcast"), "a cast of a reference");
        need(7, !code.matches("[ilbcsa]a(load|store)") || WITH_INDEXES.contains(place), "an index");
        need(7, !code.matches("[il](div|rem)") || before.matches("(bi|si)push|[il]const_[1-5]|ldc2?(_w)?")
                || WITH_OTHER_DIVISORS.contains(place), "a divisor that is no constant");
        need(12, !code.matches("(multi)?a?newarray") || method.equals("<init>"), "a new array");
        need(12, !code.equals("new") || method.equals("<init>") || WITH_THROWS.contains(place), "a new object");
        need(3, !code.matches("[fd](add|sub|mul|div|rem|neg)|[fd]2[ijl]"), "float or double");
        if (code.startsWith("invoke")) {
            lookAtCall(rest);
        }
    }

    private void lookAtCall(String rest) {
        Matcher call = CALLED.matcher(rest);
        boolean isKnown = call.find();
        need(4, isKnown, "a call that this test does not know: " + rest);
        if (isKnown) {
            String other = call.group(1) == null ? owner : call.group(1);
            String called = other + "." + call.group(2);
            need(4, other.startsWith("RustRails") || LIBRARY.contains(called), called);
            calls.get(owner + "." + method).add(called);
        }
    }

    // ---- how deep calls go

    private void lookAtDepth() {
        owner = "";
        method = "";
        for (String start : calls.keySet()) {
            List<String> deepest = deepestFrom(start, new ArrayList<>());
            need(11, deepest.size() <= MAX_DEPTH, "calls too deep: " + deepest);
        }
    }

    /** The longest row of calls of the class's own methods that begins here; the library's calls do not count. */
    private List<String> deepestFrom(String start, List<String> open) {
        List<String> longest = new ArrayList<>();
        if (open.contains(start)) {
            need(8, false, "recursion: " + open + " " + start);
            return longest;
        }
        open.add(start);
        for (String next : calls.getOrDefault(start, Set.of())) {
            List<String> row = next.startsWith("RustRails") ? deepestFrom(next, open) : List.of();
            longest = row.size() > longest.size() ? row : longest;
        }
        open.remove(open.size() - 1);
        List<String> whole = new ArrayList<>(List.of(start));
        whole.addAll(longest);
        return whole;
    }
}
