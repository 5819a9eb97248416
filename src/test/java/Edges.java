import java.util.ArrayList;
import java.util.IdentityHashMap;
import java.util.List;
import java.util.Map;

/**
 * What the tests of the edges share. Each of their checks stands under words of the document, which are told when it
 * fails; SentencesTest looks that the document has these words, and that none of its edges is without a check.
 */
final class Edges {
    /** Makes the same game each time. */
    interface Recipe {
        RustRails game();
    }

    interface Call {
        int on(RustRails game);
    }

    interface Check {
        void on(Edges edges);
    }

    record Quote(String section, String words) {
    }

    static final String NO_SUCH = "IndexOutOfBoundsException";
    static final String OUT_OF_RANGE = "IllegalArgumentException";
    static final String NOT_NOW = "IllegalStateException";
    static final int NONE = RustRails.NONE;

    private static final int MORE_THAN_REMEMBERED = 15;
    private static final Call NO_CALL = game -> 0;

    private final List<Quote> quotes = new ArrayList<>();
    private final Checks checks = new Checks();
    private final Map<Recipe, String> untouched = new IdentityHashMap<>();
    private String heading = "";

    static void test(Check check) {
        Edges edges = new Edges();
        check.on(edges);
        edges.end();
    }

    void end() {
        checks.end();
    }

    // ---- the words under which the checks stand

    void promise(int number, String... words) {
        under("Promise " + number, words);
    }

    void terms(String part, String... words) {
        under(part, words);
    }

    private void under(String section, String... words) {
        heading = section + " \"" + words[0] + "\": ";
        for (String quoted : words) {
            quotes.add(new Quote(section, quoted));
        }
    }

    List<Quote> quotes() {
        return quotes;
    }

    // ---- the checks

    void answers(String what, int due, RustRails game, Call call) {
        checks.due(heading + what, due, () -> call.on(game));
    }

    void same(String what, String got, String due) {
        checks.same(heading + what, got, due);
    }

    /** Throws just this, whatever else is wrong with the call, and leaves everything as it is. */
    void refuses(String what, String exception, Recipe recipe, Call call) {
        same(what, outcome(recipe.game(), call), exception);
        changesNothing(what, recipe, call);
    }

    void onlyAnswers(String what, int due, Recipe recipe, Call call) {
        answers(what, due, recipe.game(), call);
        changesNothing(what, recipe, call);
    }

    /** Answers, and then everything is as in the other game. */
    void leads(String what, int due, Recipe recipe, Call call, Recipe other) {
        answers(what, due, recipe.game(), call);
        same("after " + what, trace(recipe, call), trace(other, NO_CALL));
    }

    private void changesNothing(String what, Recipe recipe, Call call) {
        String before = untouched.computeIfAbsent(recipe, same -> trace(same, NO_CALL));
        same("after " + what, trace(recipe, call), before);
    }

    static String outcome(RustRails game, Call call) {
        return Checks.outcome(() -> call.on(game));
    }

    // ---- all that an object shows of itself

    /**
     * After the call: the state and what follows from it, the remembered states, what the slots hold, and the text;
     * each on a new object.
     */
    static String trace(Recipe recipe, Call call) {
        StringBuilder lines = new StringBuilder();
        for (int times = 0; times <= MORE_THAN_REMEMBERED; times++) {
            traceUndo(after(recipe, call), times, lines);
        }
        for (int slot = 0; slot < 2; slot++) {
            traceSlot(after(recipe, call), slot, lines);
        }
        traceText(after(recipe, call), lines);
        traceForecasts(after(recipe, call), lines);
        traceWays(after(recipe, call), lines);
        return lines.toString();
    }

    private static RustRails after(Recipe recipe, Call call) {
        RustRails game = recipe.game();
        outcome(game, call);
        return game;
    }

    private static void traceUndo(RustRails game, int times, StringBuilder lines) {
        lines.append("\nundo ").append(times).append(":");
        for (int done = 0; done < times; done++) {
            lines.append(" ").append(Checks.outcome(game::undo));
        }
        lines.append(" -> ").append(Checks.picture(game));
    }

    private static void traceSlot(RustRails game, int slot, StringBuilder lines) {
        lines.append("\nslot ").append(slot).append(": ").append(Checks.outcome(() -> game.restore(slot)));
        lines.append(" -> ").append(Checks.picture(game));
    }

    private static void traceText(RustRails game, StringBuilder lines) {
        lines.append("\ntext: error at ").append(Checks.outcome(game::errorPosition));
        lines.append(", loads ").append(Checks.outcome(game::load)).append(" -> ").append(Checks.picture(game));
        lines.append(", one more: ").append(Checks.outcome(() -> game.append('t')));
        lines.append(", error at ").append(Checks.outcome(game::errorPosition));
        lines.append(", length ").append(Checks.outcome(game::clearText));
    }

    private static void traceForecasts(RustRails game, StringBuilder lines) {
        lines.append("\nforecasts:");
        for (int i = 0; i < 4; i++) {
            lines.append(" ").append(game.worth(i)).append(" ").append(game.bestContract(i));
            lines.append(" ").append(game.bankruptAfter(i)).append(" ").append(game.coinsAfter(i, 9));
            for (int k = 0; k < game.about(2); k++) {
                lines.append(" ").append(game.levelFor(i, k)).append(game.contract(k, 4) == i ? "!" : "");
            }
        }
        for (int seed = 0; seed < 5; seed++) {
            lines.append(" ").append(game.simulate(seed, 9));
        }
    }

    private static void traceWays(RustRails game, StringBuilder lines) {
        lines.append("\nways:");
        for (int i = 0; i < 4; i++) {
            for (int a = 0; a < game.about(0); a++) {
                for (int b = 0; b < game.about(0); b++) {
                    if (a != b) {
                        lines.append(" ").append(game.way(i, a, b, 24, a % 2 * 3));
                    }
                }
            }
        }
    }
}
