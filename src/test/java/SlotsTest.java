/** Promises 28 and 29: save, restore. */
final class SlotsTest {
    private static final Checks CHECKS = new Checks();

    public static void main(String[] args) {
        saving();
        restoring();
        forgetting();
        CHECKS.end();
    }

    private static void saving() {
        RustRails game = new RustRails();
        CHECKS.outOfBounds("save(-1)", () -> game.save(-1));
        CHECKS.outOfBounds("save(2)", () -> game.save(2));
        CHECKS.outOfBounds("restore(-1)", () -> game.restore(-1));
        CHECKS.outOfBounds("restore(2)", () -> game.restore(2));
        CHECKS.badState("restore(0)", () -> game.restore(0));
        CHECKS.due("save", 0, () -> game.save(1));
        CHECKS.badState("the other slot is empty", () -> game.restore(0));
        game.endRound();
        game.endRound();
        CHECKS.due("save", 2, () -> game.save(0));
        CHECKS.due("restore", 0, () -> game.restore(1));
        CHECKS.due("restore", 2, () -> game.restore(0));
        CHECKS.due("save over it", 2, () -> game.save(1));
        CHECKS.due("restore", 2, () -> game.restore(1));
    }

    private static void restoring() {
        RustRails game = Checks.gameOf("R3t012t122c02405c01011");
        game.buyTrain(0, 1);
        game.buyTrack(1, 0);
        game.setRent(1, 3);
        game.take(0, 0);
        game.run(0, 0);
        game.save(0);
        String saved = Checks.picture(game);
        for (int times = 0; times < 2; times++) {
            game.buyTrain(2, 2);
            game.buyTrain(3, 3);
            game.take(3, 1);
            game.offer(2, 1, 8, 2);
            game.buyTrack(2, 1);
            game.setRent(0, 0);
            game.endRound();
            game.clearText();
            CHECKS.due("restore", 0, () -> game.restore(0));
            CHECKS.same("as it was saved", Checks.picture(game), saved);
            CHECKS.due("the text is not part of it", 0, () -> game.clearText());
        }
    }

    private static void forgetting() {
        RustRails game = new RustRails();
        game.setRent(0, 2);
        game.save(0);
        game.setRent(0, 3);
        CHECKS.due("save is no action", 1, () -> game.undo());
        CHECKS.due("undo", 0, () -> game.undo());
        CHECKS.due("the slot stays", 0, () -> game.restore(0));
        CHECKS.due("with what was saved", 2, () -> game.company(0, 1));
        game.setRent(0, 4);
        CHECKS.due("restore", 0, () -> game.restore(0));
        CHECKS.badState("restore forgets the actions", () -> game.undo());
        game.setRent(0, 5);
        CHECKS.badState("a restore that throws", () -> game.restore(1));
        CHECKS.outOfBounds("another", () -> game.restore(3));
        CHECKS.due("forgets nothing", 0, () -> game.undo());
        CHECKS.due("and restores nothing", 2, () -> game.company(0, 1));
    }
}
