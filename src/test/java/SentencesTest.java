import java.io.IOException;
import java.nio.file.Files;
import java.nio.file.Path;
import java.util.ArrayList;
import java.util.BitSet;
import java.util.LinkedHashMap;
import java.util.List;
import java.util.Map;
import java.util.Set;
import java.util.regex.Matcher;
import java.util.regex.Pattern;

/**
 * The tests of the edges and the document: what they quote stands there, in the section that they name, and what
 * they do not quote names no edge.
 */
final class SentencesTest {
    private static final Path DOCUMENT = Path.of("../shared/DOC.md");
    private static final Edges.Check[] TESTS = {
        EdgesOfArgumentsTest::all, EdgesOfTextTest::all, EdgesOfNumbersTest::all, EdgesOfPurchasesTest::all,
        EdgesOfContractsTest::all, EdgesOfRoundsTest::all, EdgesOfUndoTest::all, EdgesOfWaysTest::all,
        EdgesOfForecastsTest::all, EdgesOfScriptsTest::all, EdgesOfSlotsTest::all,
    };
    private static final Pattern START = Pattern.compile(
            "^(## Promise \\d+|## [A-Z][a-z ]+|The constants:|Ahead of|[A-Z][A-Z ]{3,}$)");
    // as "## Promise 2: append `int append(int c) throws ..`:", "## What it is", "TEXT", and what stands before calls
    private static final String HEADINGS = "^## Promise \\d+: .*?`[^`]*`:( |$)|^## [A-Z][a-z ]+|^[A-Z][A-Z ]{3,}(?= |$)"
            + "|Ahead of the calls [^:]*:|---- [a-z ,]*\\.|^- |-$";
    private static final Set<String> WITHOUT_EDGES = Set.of("before", "The public face", "Terms", "Not promised");
    private static final Set<String> NO_EDGE = Set.of(
            "A rail game: companies buy tracks and trains, rent out their tracks, and carry mail for contracts; trains rust as "
            + "newer ones come, contracts that are not served cost fines, and companies go bankrupt.",
            "what later calls answer is free.", "A run of a company for a contract with a train:",
            "The methods in the section \"actions\"", "The constants:", "Appends a character to the text buffer.",
            "Checks the text.", "Returns a number.", "Returns a number of a track.", "Returns a number of a company.",
            "Returns a number of a train.", "Returns a number of a contract.", "Changes the rent of a company.",
            "Ends the round.", "Tells about the way of a company.",
            "Tells why the holder of a contract could not make a run for it now.", "Finds the best contract for a company.",
            "Returns");

    private final Map<String, StringBuilder> sections = new LinkedHashMap<>();
    private final Map<String, BitSet> quoted = new LinkedHashMap<>();
    private final Checks checks = new Checks();

    public static void main(String[] args) throws IOException {
        SentencesTest test = new SentencesTest();
        test.read();
        test.markQuotes();
        test.findTheRest();
        test.checks.end();
    }

    private void read() throws IOException {
        String name = "before";
        for (String line : Files.readAllLines(DOCUMENT)) {
            Matcher start = START.matcher(line);
            if (start.find()) {
                name = start.group(1).replaceAll("^## |:$| of$", "").strip();
            }
            if (!line.startsWith("```")) {
                sections.computeIfAbsent(name, key -> new StringBuilder()).append(line.strip()).append(' ');
            }
        }
        for (Map.Entry<String, StringBuilder> section : sections.entrySet()) {
            String text = section.getValue().toString().replaceAll("\\s+", " ");
            section.setValue(new StringBuilder(text));
            quoted.put(section.getKey(), new BitSet());
        }
    }

    private void markQuotes() {
        Edges edges = new Edges();
        for (Edges.Check test : TESTS) {
            test.on(edges);
        }
        for (Edges.Quote quote : edges.quotes()) {
            StringBuilder section = sections.get(quote.section());
            int start = section == null ? -1 : section.indexOf(quote.words());
            checks.same(quote.section() + ": " + quote.words(), start < 0 ? "does not stand there" : "", "");
            for (int from = start; from >= 0; from = section.indexOf(quote.words(), from + 1)) {
                quoted.get(quote.section()).set(from, from + quote.words().length());
            }
        }
    }

    private void findTheRest() {
        for (Map.Entry<String, StringBuilder> section : sections.entrySet()) {
            if (!WITHOUT_EDGES.contains(section.getKey())) {
                for (String rest : unquoted(section.getValue(), quoted.get(section.getKey()))) {
                    String left = rest.replaceAll(HEADINGS, "").strip();
                    boolean isKnown = left.isEmpty() || NO_EDGE.contains(left);
                    checks.same(section.getKey() + " has words without a check", isKnown ? "" : left, "");
                }
            }
        }
    }

    private static List<String> unquoted(CharSequence text, BitSet marked) {
        List<String> pieces = new ArrayList<>();
        for (int from = marked.nextClearBit(0); from < text.length(); ) {
            int next = marked.nextSetBit(from);
            int end = next < 0 ? text.length() : next;
            String piece = text.subSequence(from, end).toString().strip();
            if (piece.length() > 3) {
                pieces.add(piece);
            }
            from = marked.nextClearBit(end);
        }
        return pieces;
    }
}
