/** The edges of promises 28 and 29. */
final class EdgesOfSlotsTest {
    private final Edges edges;

    private EdgesOfSlotsTest(Edges edges) {
        this.edges = edges;
    }

    public static void main(String[] args) {
        Edges.test(EdgesOfSlotsTest::all);
    }

    static void all(Edges edges) {
        EdgesOfSlotsTest test = new EdgesOfSlotsTest(edges);
        test.slots();
        test.saving();
        test.savingOver();
        test.emptySlots();
        test.emptyAfterLoad();
        test.firstException();
        test.restoring();
        test.forgetting();
        test.keeping();
        test.everythingComesBack();
    }

    private void slots() {
        for (Edges.Recipe recipe : new Edges.Recipe[] {Games::untouched, Games::young, Games::old, Games::closed}) {
            for (int slot : new int[] {Integer.MIN_VALUE, -1, 2, 3, Integer.MAX_VALUE}) {
                edges.promise(28, "`slot`: 0 or 1", "Throws `IndexOutOfBoundsException` if there is no such save slot");
                edges.refuses("save(" + slot + ")", Edges.NO_SUCH, recipe, game -> game.save(slot));
                edges.promise(29, "`slot`: 0 or 1", "Throws `IndexOutOfBoundsException` if there is no such save slot");
                edges.refuses("restore(" + slot + ")", Edges.NO_SUCH, recipe, game -> game.restore(slot));
            }
        }
        edges.terms("EXCEPTIONS", "IndexOutOfBoundsException means that a city, a track, a company, a train or a contract does "
                + "not exist, or that a save slot is not 0 or 1.");
        edges.refuses("save(2)", Edges.NO_SUCH, RustRails::new, game -> game.save(2));
        edges.refuses("restore(-1)", Edges.NO_SUCH, RustRails::new, game -> game.restore(-1));
    }

    private static RustRails inRound(int rounds) {
        RustRails game = new RustRails();
        for (int round = 0; round < rounds; round++) {
            game.endRound();
        }
        return game;
    }

    private void saving() {
        edges.promise(28, "Stores the present state in a save slot.", "Returns the round.");
        for (int slot = 0; slot <= 1; slot++) {
            int place = slot;
            for (int rounds : new int[] {0, 1, 2, 100}) {
                edges.answers("save in round " + rounds, rounds, inRound(rounds), game -> game.save(place));
                RustRails game = inRound(rounds);
                game.save(place);
                game.endRound();
                edges.answers("restore", rounds, game, it -> it.restore(place));
            }
            RustRails game = Games.old();
            String before = Checks.picture(game);
            game.save(place);
            edges.same("the state stays", Checks.picture(game), before);
            edges.answers("nothing is forgotten", 13, game, RustRails::undo);
            edges.answers("the other slot stays", place == 0 ? 2 : 0, game, it -> it.restore(1 - place));
            edges.answers("the text stays", 9, game, RustRails::clearText);
        }
    }

    private void savingOver() {
        edges.promise(28, "Stores the present state in a save slot.");
        for (int slot = 0; slot <= 1; slot++) {
            int place = slot;
            RustRails game = new RustRails();
            game.save(place);
            game.save(1 - place);
            game.setRent(0, 7);
            game.endRound();
            edges.answers("over another one", 1, game, it -> it.save(place));
            game.setRent(0, 8);
            edges.answers("the later one", 1, game, it -> it.restore(place));
            edges.answers("its rent", 7, game, it -> it.company(0, 1));
            edges.answers("the other slot", 0, game, it -> it.restore(1 - place));
            edges.answers("its rent", 1, game, it -> it.company(0, 1));
        }
    }

    private void emptySlots() {
        edges.promise(29, "Throws `IllegalStateException` if nothing has been saved in it since the last load");
        for (int slot = 0; slot <= 1; slot++) {
            int place = slot;
            edges.refuses("a new object", Edges.NOT_NOW, RustRails::new, game -> game.restore(place));
            edges.refuses("a loaded game", Edges.NOT_NOW, Games::untouched, game -> game.restore(place));
            edges.refuses("all else is full", Edges.NOT_NOW, Games::closed, game -> game.restore(place));
            Edges.Recipe other = () -> {
                RustRails game = Games.closed();
                game.save(1 - place);
                return game;
            };
            edges.refuses("only the other one is filled", Edges.NOT_NOW, other, game -> game.restore(place));
            edges.answers("that one", 0, other.game(), game -> game.restore(1 - place));
        }
        edges.refuses("slot 1 of a young game", Edges.NOT_NOW, Games::young, game -> game.restore(1));
        edges.answers("slot 0 of a young game", 0, Games.young(), game -> game.restore(0));
    }

    private void emptyAfterLoad() {
        edges.promise(29, "Throws `IllegalStateException` if nothing has been saved in it since the last load");
        edges.promise(5, "Forgets all remembered states and empties both save slots.");
        Edges.Recipe loaded = () -> {
            RustRails game = Games.young();
            game.save(1);
            game.load();
            return game;
        };
        edges.refuses("slot 0 after load", Edges.NOT_NOW, loaded, game -> game.restore(0));
        edges.refuses("slot 1 after load", Edges.NOT_NOW, loaded, game -> game.restore(1));
        Edges.Recipe saved = () -> {
            RustRails game = loaded.game();
            game.save(1);
            return game;
        };
        edges.answers("saved after load", 0, saved.game(), game -> game.restore(1));
        edges.refuses("the other one", Edges.NOT_NOW, saved, game -> game.restore(0));
        RustRails failed = Games.young();
        failed.append('x');
        edges.same("a load that is refused", Edges.outcome(failed, RustRails::load), Edges.NOT_NOW);
        edges.answers("empties nothing", 0, failed, game -> game.restore(0));
    }

    private void firstException() {
        edges.promise(29, "Throws `IndexOutOfBoundsException` if there is no such save slot");
        edges.refuses("no such slot, and nothing saved", Edges.NO_SUCH, RustRails::new, game -> game.restore(2));
        edges.refuses("no such slot, and nothing saved", Edges.NO_SUCH, RustRails::new, game -> game.restore(-1));
    }

    private void restoring() {
        edges.promise(29, "Replaces the state by the one in a save slot, and forgets all remembered states.",
                "Returns the round then.");
        edges.answers("slot 0 of an old game", 0, Games.old(), game -> game.restore(0));
        edges.answers("slot 1 of an old game", 2, Games.old(), game -> game.restore(1));
        RustRails game = inRound(3);
        game.save(0);
        game.endRound();
        game.endRound();
        game.save(1);
        edges.answers("back", 3, game, it -> it.restore(0));
        edges.answers("the round", 3, game, it -> it.about(4));
        edges.answers("and forth", 5, game, it -> it.restore(1));
        edges.answers("the round", 5, game, it -> it.about(4));
    }

    private void forgetting() {
        edges.promise(29, "Replaces the state by the one in a save slot, and forgets all remembered states.");
        for (int slot = 0; slot <= 1; slot++) {
            int place = slot;
            edges.refuses("undo after restore", Edges.NOT_NOW, () -> {
                RustRails game = Games.old();
                game.restore(place);
                return game;
            }, RustRails::undo);
            RustRails game = Games.old();
            game.restore(place);
            game.setRent(0, 9);
            edges.answers("an action after restore", 0, game, RustRails::undo);
        }
        RustRails same = new RustRails();
        same.setRent(0, 5);
        same.save(0);
        same.restore(0);
        edges.same("also if nothing becomes different", Edges.outcome(same, RustRails::undo), Edges.NOT_NOW);
        RustRails full = new RustRails();
        full.save(0);
        for (int times = 0; times < 20; times++) {
            full.setRent(0, times % 10);
        }
        full.restore(0);
        for (int times = 0; times < 14; times++) {
            full.setRent(0, times % 10);
        }
        for (int left = 13; left >= 0; left--) {
            int due = left;
            edges.answers("14 new ones", due, full, RustRails::undo);
        }
        edges.answers("back to what was restored", 1, full, it -> it.company(0, 1));
    }

    private void keeping() {
        edges.promise(29, "The save slot keeps it.");
        for (int slot = 0; slot <= 1; slot++) {
            int place = slot;
            RustRails game = Games.old();
            game.save(place);
            String saved = Checks.picture(game);
            for (int times = 0; times < 2; times++) {
                game.setRent(0, 9);
                game.endRound();
                game.undo();
                game.endRound();
                game.restore(place);
            }
            edges.same("after actions, undo and restore", Checks.picture(game), saved);
        }
    }

    private void everythingComesBack() {
        edges.promise(29, "Replaces the state by the one in a save slot, and forgets all remembered states.");
        Edges.Recipe[] games = {Games::untouched, Games::young, Games::old, Games::closed, () -> Games.rich(5),
            () -> Games.counted(50, 3)};
        for (Edges.Recipe recipe : games) {
            RustRails game = recipe.game();
            String before = Checks.picture(game);
            int forecast = game.simulate(11, 20);
            game.save(1);
            for (int i = 0; i <= 3; i++) {
                int company = i;
                game.setRent(i, 9 - game.company(i, 1));
                Edges.outcome(game, it -> it.buyTrack(company, company));
                Edges.outcome(game, it -> it.buyTrain(company, it.about(3)));
                Edges.outcome(game, it -> it.offer(0, 1, 9, 1));
                Edges.outcome(game, it -> it.take(company, it.about(2) - 1));
                Edges.outcome(game, it -> it.run(0, 0));
            }
            for (int round = 0; round < 10; round++) {
                game.endRound();
            }
            game.restore(1);
            edges.same("as it was", Checks.picture(game), before);
            edges.answers("as it goes on", forecast, game, it -> it.simulate(11, 20));
        }
    }
}
