/** The edges of promise 18, and of what the document says of actions and undo. */
final class EdgesOfUndoTest {
    private static final String PART = "ACTIONS AND UNDO";
    private static final int REMEMBERED = 14;

    private final Edges edges;

    private EdgesOfUndoTest(Edges edges) {
        this.edges = edges;
    }

    public static void main(String[] args) {
        Edges.test(EdgesOfUndoTest::all);
    }

    static void all(Edges edges) {
        EdgesOfUndoTest test = new EdgesOfUndoTest(edges);
        test.nothingRemembered();
        test.fourteenStates();
        test.allActions();
        test.actionsWithoutChange();
        test.undoIsNone();
        test.refusedCalls();
        test.loadAndRestore();
        test.textAndSlots();
    }

    private void nothingRemembered() {
        edges.promise(18, "Throws `IllegalStateException` if none is remembered");
        edges.refuses("a new object", Edges.NOT_NOW, RustRails::new, RustRails::undo);
        edges.refuses("a loaded game", Edges.NOT_NOW, Games::untouched, RustRails::undo);
        for (int actions = 1; actions <= REMEMBERED + 2; actions++) {
            int done = actions;
            edges.refuses("all is taken back", Edges.NOT_NOW, () -> undone(done, Math.min(done, REMEMBERED)),
                    RustRails::undo);
            edges.answers("one is left", 0, undone(done, Math.min(done, REMEMBERED) - 1), RustRails::undo);
        }
    }

    /** The rent of company 2 is the number of the action, or that less 10; then some of them are taken back. */
    private static RustRails undone(int actions, int undos) {
        RustRails game = new RustRails();
        for (int action = 1; action <= actions; action++) {
            game.setRent(2, action % 10);
        }
        for (int undo = 0; undo < undos; undo++) {
            game.undo();
        }
        return game;
    }

    private void fourteenStates() {
        edges.terms(PART, "At most 14 states are remembered; when one more is remembered, the oldest one is forgotten.",
                "Before each action, the state is remembered.");
        edges.promise(18, "Takes back the last action that is remembered.", "Returns how many states are still remembered.");
        for (int actions = 0; actions <= 3 * REMEMBERED; actions++) {
            int remembered = Math.min(actions, REMEMBERED);
            for (int undos = 1; undos <= remembered; undos++) {
                int action = actions - undos;
                RustRails game = undone(actions, undos - 1);
                String what = "undo " + undos + " of " + actions;
                edges.answers(what, remembered - undos, game, RustRails::undo);
                edges.answers(what + ": the rent before", action == 0 ? 1 : action % 10, game, it -> it.company(2, 1));
            }
            RustRails game = undone(actions, remembered);
            edges.same("one more of " + actions, Edges.outcome(game, RustRails::undo), Edges.NOT_NOW);
        }
    }

    private static int act(RustRails game, int action) {
        switch (action) {
            case 0: return game.buyTrack(1, 1);
            case 1: return game.buyTrain(1, 2);
            case 2: return game.setRent(1, 9);
            case 3: return game.offer(2, 3, 4, 5);
            case 4: return game.take(1, 1);
            case 5: return game.run(2, 0);
            default: return game.endRound();
        }
    }

    /** Company 0 can run contract 2; all that the actions want is possible. */
    private static RustRails ready(int rents) {
        RustRails game = Checks.gameOf("R4t012t122c02405c01011c10205");
        game.buyTrain(0, 1);
        game.take(0, 2);
        for (int rent = 0; rent < rents; rent++) {
            game.setRent(3, rent % 10);
        }
        return game;
    }

    private void allActions() {
        edges.terms(PART, "Each call of one of them that does not throw an exception is an action,");
        edges.promise(18, "Takes back the last action that is remembered.", "Returns how many states are still remembered.");
        for (int rents = 0; rents <= REMEMBERED; rents++) {
            int before = rents;
            for (int number = 0; number <= 6; number++) {
                int action = number;
                String what = "action " + action + " after " + (before + 2);
                RustRails game = ready(before);
                String picture = Checks.picture(game);
                String got = Edges.outcome(game, it -> act(it, action));
                edges.same(what, got.endsWith("Exception") ? got : "done", "done");
                edges.same(what + " changes something", picture.equals(Checks.picture(game)) ? "nothing" : "something",
                        "something");
                edges.answers("undo of " + what, Math.min(before + 2, REMEMBERED - 1), game, RustRails::undo);
                edges.same("undo of " + what, Checks.picture(game), picture);
            }
        }
        for (int number = 0; number <= 6; number++) {
            int action = number;
            edges.leads("action " + action + " and undo", 0, () -> ready(3), game -> {
                act(game, action);
                return game.undo() - 5;
            }, () -> ready(3));
        }
    }

    private void actionsWithoutChange() {
        edges.terms(PART, "is an action, also if nothing becomes different (undo is none).");
        RustRails game = new RustRails();
        game.setRent(0, 1);
        game.setRent(0, 1);
        edges.answers("a rent that was so", 1, game, RustRails::undo);
        edges.answers("a rent that was so", 0, game, RustRails::undo);
        RustRails full = undone(1, 0);
        for (int times = 0; times < REMEMBERED - 1; times++) {
            full.setRent(2, 1);
        }
        for (int left = REMEMBERED - 1; left >= 1; left--) {
            int due = left;
            edges.answers("they have places", due, full, RustRails::undo);
        }
        edges.answers("before them", 1, full, it -> it.company(2, 1));
        RustRails forgotten = undone(5, 0);
        for (int times = 0; times < REMEMBERED; times++) {
            forgotten.setRent(2, 5);
        }
        for (int left = REMEMBERED - 1; left >= 0; left--) {
            int due = left;
            edges.answers("they push out older ones", due, forgotten, RustRails::undo);
        }
        edges.answers("which can't be taken back", 5, forgotten, it -> it.company(2, 1));
        RustRails rounds = Checks.gameOf("R2");
        rounds.endRound();
        edges.answers("a round without anything", 0, rounds, RustRails::undo);
    }

    private void undoIsNone() {
        edges.terms(PART, "is an action, also if nothing becomes different (undo is none).");
        RustRails game = undone(3, 0);
        edges.answers("undo", 2, game, RustRails::undo);
        edges.answers("undo of what was before, not of undo", 1, game, RustRails::undo);
        edges.answers("the rent", 1, game, it -> it.company(2, 1));
        game.setRent(2, 7);
        edges.answers("an action in the place of those taken back", 1, game, RustRails::undo);
        edges.answers("the rent", 1, game, it -> it.company(2, 1));
        RustRails full = undone(20, 0);
        for (int times = 0; times < 30; times++) {
            full.undo();
            full.setRent(2, 9);
            edges.answers("still 14", REMEMBERED - 1, full, RustRails::undo);
            full.setRent(2, 8);
        }
        for (int left = REMEMBERED - 1; left >= 0; left--) {
            int due = left;
            edges.answers("in the end", due, full, RustRails::undo);
        }
        edges.answers("the oldest of 20", 6, full, it -> it.company(2, 1));
    }

    private void refusedCalls() {
        edges.terms(PART, "Each call of one of them that does not throw an exception is an action,");
        for (Edges.Recipe recipe : new Edges.Recipe[] {Games::untouched, Games::young, Games::closed}) {
            edges.refuses("buyTrack", Edges.NO_SUCH, recipe, game -> game.buyTrack(0, 2));
            edges.refuses("buyTrain", Edges.NOT_NOW, recipe, game -> game.buyTrain(0, 3));
            edges.refuses("setRent", Edges.OUT_OF_RANGE, recipe, game -> game.setRent(0, 10));
            edges.refuses("offer", Edges.OUT_OF_RANGE, recipe, game -> game.offer(0, 0, 1, 1));
            edges.refuses("take", Edges.NO_SUCH, recipe, game -> game.take(0, 8));
            edges.refuses("run", Edges.NOT_NOW, recipe, game -> game.run(0, 0));
        }
    }

    private void loadAndRestore() {
        edges.terms(PART, "load and restore are not actions.");
        edges.refuses("undo after load", Edges.NOT_NOW, () -> {
            RustRails game = Games.young();
            game.load();
            return game;
        }, RustRails::undo);
        edges.refuses("undo after restore", Edges.NOT_NOW, () -> {
            RustRails game = Games.young();
            game.restore(0);
            return game;
        }, RustRails::undo);
        RustRails game = undone(3, 0);
        game.save(0);
        edges.answers("save is none", 2, game, RustRails::undo);
        game.restore(0);
        game.setRent(2, 8);
        edges.answers("after restore", 0, game, RustRails::undo);
        edges.answers("as restored", 3, game, it -> it.company(2, 1));
    }

    private void textAndSlots() {
        edges.terms(PART, "change the state, which consists of everything but the text and the save slots.");
        RustRails game = new RustRails();
        game.setRent(0, 2);
        game.save(0);
        game.setRent(0, 3);
        Checks.type(game, "R5");
        game.save(1);
        game.undo();
        edges.answers("the slot keeps what was saved later", 0, game, it -> it.restore(1));
        edges.answers("the rent in it", 3, game, it -> it.company(0, 1));
        edges.answers("the text stays", Edges.NONE, game, RustRails::errorPosition);
        edges.answers("its length stays", 2, game, RustRails::clearText);
        game.setRent(0, 4);
        Checks.type(game, "R");
        game.undo();
        edges.answers("undo does not empty the text", 1, game, RustRails::errorPosition);
        edges.answers("the other slot", 0, game, it -> it.restore(0));
        edges.answers("the rent in it", 2, game, it -> it.company(0, 1));
        edges.answers("restore leaves the text", 1, game, RustRails::clearText);
    }
}
