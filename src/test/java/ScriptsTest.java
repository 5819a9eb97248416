/** Promises 26 and 27: runScript, simulate. */
final class ScriptsTest {
    private static final Checks CHECKS = new Checks();

    public static void main(String[] args) {
        wrongScripts();
        zerosBefore();
        purchases();
        contracts();
        rentsOfScripts();
        questions();
        groupsThatFail();
        rows();
        scriptsChangeNothing();
        simulations();
        simulationsOfOthers();
        emptySimulations();
        wrongSimulations();
        CHECKS.end();
    }

    private static void script(RustRails game, int n, long script, int due) {
        CHECKS.due("runScript(" + n + ", " + script + ")", due, () -> game.runScript(n, script));
    }

    /** A single command that succeeds, or one that fails. */
    private static void command(RustRails game, int group, boolean succeeds) {
        script(game, 1, group, succeeds ? RustRails.NONE : 0);
    }

    private static void wrongScripts() {
        RustRails game = new RustRails();
        CHECKS.badArgument("0 commands", () -> game.runScript(0, 0));
        CHECKS.badArgument("4 commands", () -> game.runScript(4, 0));
        CHECKS.badArgument("-1 commands", () -> game.runScript(-1, 0));
        CHECKS.badArgument("negative", () -> game.runScript(1, -1));
        CHECKS.badArgument("very negative", () -> game.runScript(3, Long.MIN_VALUE));
        CHECKS.badArgument("6 digits", () -> game.runScript(1, 100000));
        CHECKS.badArgument("11 digits", () -> game.runScript(2, 10000000000L));
        CHECKS.badArgument("16 digits", () -> game.runScript(3, 1000000000000000L));
        CHECKS.badArgument("19 digits", () -> game.runScript(3, Long.MAX_VALUE));
        script(game, 1, 99999, 0);
        script(game, 2, 9999999999L, 0);
        script(game, 3, 999999999999999L, 0);
    }

    private static void zerosBefore() {
        RustRails game = new RustRails();
        script(game, 1, 0, 0);
        script(game, 2, 60000, 0);
        script(game, 3, 6000060000L, 0);
        script(game, 2, 6000000000L, 1);
        script(game, 3, 600006000000000L, 2);
        script(game, 3, 600006000060000L, RustRails.NONE);
    }

    private static void purchases() {
        RustRails game = Checks.gameOf("R2t011t012t013t014t015t016t017t018t019t019t011t012t019");
        command(game, 10000, true);
        command(game, 13012, true);
        command(game, 10013, false);
        command(game, 14000, false);
        command(game, 10100, false);
        command(game, 20001, true);
        command(game, 23002, true);
        command(game, 23003, false);
        command(game, 20000, false);
        command(game, 20007, false);
        command(game, 24001, false);
        command(game, 20101, false);
        command(game, 20011, false);
        script(game, 2, 1000910009L, 1);
        script(game, 3, 100081000910012L, RustRails.NONE);
        script(game, 3, 210022100321004L, 2);
        command(game, 30000, true);
        command(game, 33009, true);
        command(game, 34000, false);
        command(game, 30019, false);
        command(game, 30010, false);
        command(game, 20010, false);
        command(game, 30109, false);
    }

    private static void contracts() {
        RustRails game = Checks.gameOf("R3t012c01095c02095");
        command(game, 40000, true);
        command(game, 43001, true);
        command(game, 40002, false);
        command(game, 44000, false);
        command(game, 40011, false);
        command(game, 40101, false);
        command(game, 50000, false);
        command(game, 52000, false);
        script(game, 3, 200014000050000L, RustRails.NONE);
        script(game, 3, 200014000150000L, 2);
        script(game, 3, 200014000051000L, 2);
        script(game, 3, 200014000050001L, 2);
        script(game, 3, 200014000050010L, 2);
        game.take(0, 0);
        command(game, 42000, false);
        command(game, 50000, false);
        game.buyTrain(0, 1);
        command(game, 50000, true);
        command(game, 50100, false);
        script(game, 2, 5000050000L, 1);
        script(game, 3, 500006000050000L, RustRails.NONE);
    }

    /** What a command changes is there for the next one. */
    private static void rentsOfScripts() {
        RustRails game = Checks.gameOf("R2t011c01105");
        game.buyTrain(0, 1);
        game.buyTrack(1, 0);
        game.take(0, 0);
        script(game, 3, 310075000070083L, RustRails.NONE);
        script(game, 3, 310075000070084L, 2);
        script(game, 3, 310075000071104L, RustRails.NONE);
        script(game, 3, 310075000071105L, 2);
        script(game, 3, 330075000070089L, RustRails.NONE);
    }

    private static void questions() {
        RustRails game = new RustRails();
        command(game, 70100, true);
        command(game, 70101, false);
        command(game, 73000, true);
        command(game, 74000, false);
        game.buyTrain(1, 2);
        command(game, 71060, true);
        command(game, 71061, false);
        command(game, 80002, true);
        command(game, 80001, false);
        command(game, 81002, false);
        command(game, 80012, false);
        command(game, 80102, false);
        command(game, 91001, true);
        command(game, 91000, false);
        command(game, 91002, false);
        command(game, 90000, true);
        command(game, 91011, false);
        command(game, 91101, false);
        command(game, 94000, false);
    }

    private static void groupsThatFail() {
        RustRails game = new RustRails();
        command(game, 60000, true);
        command(game, 60001, false);
        command(game, 60010, false);
        command(game, 60100, false);
        command(game, 61000, false);
        command(game, 1, false);
        command(game, 9999, false);
    }

    private static void rows() {
        RustRails game = new RustRails();
        script(game, 2, 2000280002L, RustRails.NONE);
        script(game, 2, 8000220002L, 0);
        script(game, 3, 200012000290002L, RustRails.NONE);
        script(game, 3, 200016000070079L, RustRails.NONE);
        script(game, 3, 200016000070080L, 2);
        script(game, 3, 200026000070059L, 2);
    }

    private static void scriptsChangeNothing() {
        RustRails game = Checks.gameOf("R3t012c01095c02095");
        game.buyTrain(0, 1);
        String before = Checks.picture(game);
        script(game, 3, 400005000060000L, RustRails.NONE);
        script(game, 3, 100003000521002L, RustRails.NONE);
        game.simulate(3, 50);
        CHECKS.same("nothing has changed", Checks.picture(game), before);
        CHECKS.due("one action to take back", 0, () -> game.undo());
    }

    private static void simulations() {
        RustRails game = Checks.gameOf("R2t019t011c01995");
        game.buyTrain(0, 1);
        String before = Checks.picture(game);
        simulate(game, 3, 0, 0, 10100);
        simulate(game, 7, 3, 1, 10100);
        simulate(game, 0, 2, 0, 10100);
        simulate(game, 0, 2, 1, 20100);
        simulate(game, 0, 2, 7, 20100);
        simulate(game, 0, 2, 2, 10100);
        // takes the contract and runs: 80 - 1 + 99 - 1 for upkeep, and 10 for the train
        simulate(game, 2, 0, 0, 10187);
        simulate(game, 2, 0, 5, 10187);
        simulate(game, 2, 1, 0, 10100);
        game.take(0, 0);
        simulate(game, 3, 0, 0, 10187);
        simulate(game, 2, 1, 0, 10187);
        // its own track: 80 - 3 + 99 - 2 for upkeep, and 3 + 10
        simulate(game, 1, 0, 1, 10187);
        simulate(game, 1, 0, 4, 10186);
        simulate(game, 1, 0, 5, 10187);
        simulate(game, 1, 2, 1, 10187);
        game.run(0, 0);
        simulate(game, 3, 0, 0, 10187);
        game.endRound();
        game.undo();
        game.undo();
        game.undo();
        CHECKS.same("simulations change nothing", Checks.picture(game), before);
    }

    /** One round whose draw is this; what follows from it is due. */
    private static void simulate(RustRails game, int kind, int i, int choice, int due) {
        long seed = seedFor(kind + 8 * i + 32 * choice);
        CHECKS.due("simulate " + kind + " " + i + " " + choice, due, () -> game.simulate(seed, 1));
    }

    /** The seed whose first r is this one: the step backwards, by the inverse of the factor. */
    private static long seedFor(int r) {
        long factor = 6364136223846793005L;
        long inverse = factor;
        for (int times = 0; times < 6; times++) {
            inverse *= 2 - factor * inverse;
        }
        return (((long) r << 33) - 1442695040888963407L) * inverse;
    }

    /** The only track is bought, and the greatest worth is that of company 1. */
    private static void simulationsOfOthers() {
        RustRails game = Checks.gameOf("R2t012c01995");
        game.buyTrain(1, 1);
        game.take(1, 0);
        // 80 - 2 + 99 - 1 for upkeep, and 10 for the train
        simulate(game, 3, 0, 0, 10186);
        // 80 - 6 + 99 - 2 for upkeep, and 6 + 10
        simulate(game, 1, 1, 0, 10187);
        simulate(game, 1, 1, 3, 10187);
        // the rent goes to company 0
        simulate(game, 1, 0, 3, 10186);
        game.offer(0, 1, 99, 9);
        game.buyTrain(1, 1);
        // 60 - 4 + 198 - 2, and 20 for the trains
        simulate(game, 2, 1, 1, 10272);
    }

    private static void emptySimulations() {
        RustRails empty = Checks.gameOf("R2");
        simulate(empty, 1, 0, 3, 10100);
        simulate(empty, 2, 0, 3, 10100);
        simulate(empty, 0, 0, 5, 10100);
        simulate(empty, 0, 0, 1, 20100);
    }

    private static void wrongSimulations() {
        RustRails game = new RustRails();
        CHECKS.badArgument("0 rounds", () -> game.simulate(1, 0));
        CHECKS.badArgument("51 rounds", () -> game.simulate(1, 51));
        CHECKS.badArgument("-1 rounds", () -> game.simulate(Long.MIN_VALUE, -1));
    }
}
