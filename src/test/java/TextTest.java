/** Promises 1 to 5: a new object, append, clearText, errorPosition, load. */
final class TextTest {
    private static final Checks CHECKS = new Checks();

    public static void main(String[] args) {
        newObject();
        appending();
        clearing();
        errors();
        tooManyParts();
        loading();
        loadingAfterForecasts();
        loadingASmallerGame();
        loadingForgets();
        CHECKS.end();
    }

    private static void newObject() {
        RustRails game = new RustRails();
        CHECKS.same("a new object", Checks.picture(game),
                "3 2 0 1 0 -400 0 0 0 0 0 | 0,1,2,-9 1,2,2,-9 "
                + "| 100 1 0 0 0 0 0 | 100 1 0 0 0 0 0 | 100 1 0 0 0 0 0 | 100 1 0 0 0 0 0 | ");
        CHECKS.badState("a new object remembers nothing", () -> game.undo());
        CHECKS.badState("nothing in slot 0", () -> game.restore(0));
        CHECKS.badState("nothing in slot 1", () -> game.restore(1));
        CHECKS.due("no text", 0, () -> game.clearText());
    }

    private static void appending() {
        RustRails game = new RustRails();
        CHECKS.badArgument("append(-1)", () -> game.append(-1));
        CHECKS.badArgument("append(256)", () -> game.append(256));
        CHECKS.badArgument("append(min)", () -> game.append(Integer.MIN_VALUE));
        CHECKS.due("append(0)", 1, () -> game.append(0));
        CHECKS.due("append(255)", 2, () -> game.append(255));
        for (int length = 3; length <= 100; length++) {
            int due = length;
            CHECKS.due("append number " + length, due, () -> game.append('t'));
        }
        CHECKS.badState("append to a full text", () -> game.append('t'));
        CHECKS.badArgument("a bad character comes before a full text", () -> game.append(256));
        CHECKS.due("the length of a full text", 100, () -> game.clearText());
    }

    private static void clearing() {
        RustRails game = new RustRails();
        Checks.type(game, "R3t");
        CHECKS.due("clearText", 3, () -> game.clearText());
        CHECKS.due("clearText again", 0, () -> game.clearText());
        CHECKS.due("append after clearText", 1, () -> game.append('R'));
        Checks.type(game, "R3t012");
        game.clearText();
        CHECKS.due("nothing is left of it", 0, () -> game.errorPosition());
        Checks.type(game, "R3t01");
        CHECKS.due("not even the last digit", 5, () -> game.errorPosition());
    }

    private static void errors() {
        errorAt("", 0);
        errorAt("r", 0);
        errorAt(" R3", 0);
        errorAt("R", 1);
        errorAt("R1", 1);
        errorAt("R0", 1);
        errorAt("R:", 1);
        errorAt("Rt", 1);
        errorAt("R2", RustRails.NONE);
        errorAt("R9", RustRails.NONE);
        errorAt("R33", 2);
        errorAt("R3 ", 2);
        errorAt("R3T012", 2);
        trackErrors();
        contractErrors();
        errorAt("R3t012c02015t129c10109", RustRails.NONE);
        errorAt("R3c02015t1c9", 10);
    }

    private static void trackErrors() {
        errorAt("R3t", 3);
        errorAt("R3t3", 3);
        errorAt("R3t/", 3);
        errorAt("R3t0", 4);
        errorAt("R3t00", 4);
        errorAt("R3t03", 4);
        errorAt("R3t0t", 4);
        errorAt("R3t02", 5);
        errorAt("R3t020", 5);
        errorAt("R3t02c", 5);
        errorAt("R3t029", RustRails.NONE);
        errorAt("R3t0299", 6);
        errorAt("R9t871", RustRails.NONE);
        errorAt("R9t891", 4);
        errorAt("R2t101", RustRails.NONE);
        errorAt("R2t121", 4);
    }

    private static void contractErrors() {
        errorAt("R3c", 3);
        errorAt("R3c3", 3);
        errorAt("R3c1", 4);
        errorAt("R3c11", 4);
        errorAt("R3c13", 4);
        errorAt("R3c10", 5);
        errorAt("R3c10t", 5);
        errorAt("R3c100", 6);
        errorAt("R3c1000", 6);
        errorAt("R3c100t", 6);
        errorAt("R3c1001", 7);
        errorAt("R3c10010", 7);
        errorAt("R3c1001x", 7);
        errorAt("R3c10011", RustRails.NONE);
        errorAt("R3c10999", RustRails.NONE);
        errorAt("R3c10109", RustRails.NONE);
        errorAt("R3c109999", 8);
    }

    private static void tooManyParts() {
        errorAt("R2" + "t011".repeat(16), RustRails.NONE);
        errorAt("R2" + "t011".repeat(17), 66);
        errorAt("R2" + "t011".repeat(16) + "c01995", RustRails.NONE);
        errorAt("R2" + "c01995".repeat(8), RustRails.NONE);
        errorAt("R2" + "c01995".repeat(9), 50);
        errorAt("R2" + "c01995".repeat(8) + "t109", RustRails.NONE);
    }

    private static void errorAt(String text, int position) {
        RustRails game = new RustRails();
        Checks.type(game, text);
        String before = Checks.picture(game);
        CHECKS.due("error position of " + text, position, () -> game.errorPosition());
        CHECKS.same("checking changes nothing: " + text, Checks.picture(game), before);
        if (position != RustRails.NONE) {
            CHECKS.badState("load of " + text, () -> game.load());
            CHECKS.same("a load that throws changes nothing: " + text, Checks.picture(game), before);
        }
        CHECKS.due("the text is kept: " + text, text.length(), () -> game.clearText());
    }

    private static void loading() {
        RustRails game = new RustRails();
        Checks.type(game, "R4t013c30079t329c12801");
        game.buyTrain(3, 2);
        game.setRent(0, 7);
        CHECKS.due("load", 2, () -> game.load());
        CHECKS.same("a loaded game", Checks.picture(game),
                "4 2 2 1 0 -400 0 0 0 0 0 | 0,1,3,-9 3,2,9,-9 "
                + "| 100 1 0 0 0 0 0 | 100 1 0 0 0 0 0 | 100 1 0 0 0 0 0 | 100 1 0 0 0 0 0 "
                + "| 3,0,7,9,-9,0 1,2,80,1,-9,0 ");
        CHECKS.due("a new train has not run", 0, () -> {
            game.buyTrain(3, 1);
            return game.train(3, 0, 1);
        });
        CHECKS.due("load again", 2, () -> game.load());
        CHECKS.due("load keeps the text", 22, () -> game.clearText());
        Checks.type(game, "R9");
        CHECKS.due("a game without tracks", 0, () -> game.load());
        CHECKS.due("its cities", 9, () -> game.about(0));
        CHECKS.due("its tracks", 0, () -> game.about(1));
        CHECKS.due("its contracts", 0, () -> game.about(2));
    }

    /** Forecasts and scripts of a game that has gone on leave nothing behind in the one that is loaded. */
    private static void loadingAfterForecasts() {
        RustRails game = Checks.gameOf("R2t019c01999c10991c01011");
        String before = Checks.picture(game);
        game.buyTrack(1, 0);
        game.setRent(1, 9);
        game.buyTrain(0, 2);
        game.buyTrain(2, 3);
        game.take(0, 0);
        game.take(3, 2);
        game.buyTrain(3, 4);
        game.buyTrain(1, 3);
        game.offer(0, 1, 1, 1);
        game.take(2, 3);
        game.run(3, 0);
        game.endRound();
        CHECKS.due("company 2 is bankrupt", 1, () -> game.about(9));
        game.coinsAfter(0, 1);
        game.load();
        CHECKS.same("as if it had just been made", Checks.picture(game), before);
        game.buyTrain(0, 2);
        game.buyTrain(0, 3);
        game.take(0, 0);
        CHECKS.due("a script with a run", RustRails.NONE, () -> game.runScript(1, 50001));
        game.load();
        CHECKS.same("no contract was run", Checks.picture(game), before);
    }

    private static void loadingASmallerGame() {
        RustRails game = Checks.gameOf("R3t011t121t021c01995c12995");
        for (int t = 0; t < 3; t++) {
            game.buyTrack(0, t);
        }
        game.buyTrain(0, 1);
        game.take(0, 0);
        game.take(0, 1);
        game.coinsAfter(0, 1);
        game.way(0, 0, 1, 24, 0);
        Checks.type(game, "R3t121");
        CHECKS.due("load", 1, () -> game.load());
        CHECKS.due("no tracks", 0, () -> game.company(0, 3));
        CHECKS.due("no contracts", 0, () -> game.company(0, 4));
        CHECKS.due("worth", 100, () -> game.worth(0));
        CHECKS.due("no way", RustRails.NONE, () -> game.way(0, 0, 2, 24, 0));
        CHECKS.due("by the bank's track", 1, () -> game.way(0, 1, 2, 24, 0));
        CHECKS.due("no upkeep", 100, () -> game.coinsAfter(0, 50));
    }

    private static void loadingForgets() {
        RustRails game = new RustRails();
        game.setRent(0, 5);
        game.save(0);
        game.save(1);
        Checks.type(game, "R2x");
        CHECKS.badState("a text that is no game", () -> game.load());
        CHECKS.due("the slots stay", 0, () -> game.restore(1));
        game.setRent(0, 6);
        Checks.type(game, "R2");
        game.load();
        CHECKS.badState("load forgets the actions", () -> game.undo());
        CHECKS.badState("load empties slot 0", () -> game.restore(0));
        CHECKS.badState("load empties slot 1", () -> game.restore(1));
        game.setRent(0, 6);
        CHECKS.due("load is no action", 0, () -> game.undo());
        CHECKS.badState("load is no action, so it is not taken back", () -> game.undo());
    }
}
