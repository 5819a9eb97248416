/** Promises 19 to 21: way, whyNot, levelFor. */
final class WaysTest {
    private static final Checks CHECKS = new Checks();

    public static void main(String[] args) {
        leastCost();
        thenLeastLength();
        thenSmallestTracks();
        reach();
        longestWay();
        wrongCalls();
        reasons();
        levels();
        CHECKS.end();
    }

    private static void way(RustRails game, int i, int a, int b, int reach, int[] due) {
        for (int what = 0; what < 4; what++) {
            int number = what;
            CHECKS.due("way(" + i + ", " + a + ", " + b + ", " + reach + ", " + what + ")", due[what],
                    () -> game.way(i, a, b, reach, number));
        }
    }

    private static int[] numbers(int cost, int length, int count, int first) {
        return new int[] {cost, length, count, first};
    }

    private static int[] none() {
        return numbers(RustRails.NONE, RustRails.NONE, RustRails.NONE, RustRails.NONE);
    }

    private static void leastCost() {
        RustRails game = Checks.gameOf("R4t013t124t029t235");
        way(game, 0, 0, 2, 24, numbers(7, 7, 2, 0));
        way(game, 0, 2, 0, 24, numbers(7, 7, 2, 1));
        game.buyTrack(0, 2);
        way(game, 0, 0, 2, 24, numbers(0, 9, 1, 2));
        way(game, 0, 0, 3, 24, numbers(5, 14, 2, 2));
        way(game, 0, 0, 3, 13, numbers(12, 12, 3, 0));
        way(game, 1, 0, 2, 24, numbers(7, 7, 2, 0));
        game.setRent(0, 0);
        way(game, 1, 0, 2, 24, numbers(0, 9, 1, 2));
        game.buyTrack(2, 0);
        game.setRent(2, 9);
        way(game, 1, 0, 1, 24, numbers(4, 13, 2, 2));
        way(game, 1, 0, 1, 12, numbers(27, 3, 1, 0));
        way(game, 2, 0, 1, 24, numbers(0, 3, 1, 0));
    }

    private static void thenLeastLength() {
        RustRails game = Checks.gameOf("R3t016t012t123t027");
        for (int t = 0; t < 4; t++) {
            game.buyTrack(t % 2, t);
        }
        game.setRent(0, 0);
        game.setRent(1, 0);
        way(game, 2, 0, 1, 24, numbers(0, 2, 1, 1));
        way(game, 2, 0, 2, 24, numbers(0, 5, 2, 1));
        way(game, 2, 1, 2, 24, numbers(0, 3, 1, 2));
    }

    private static void thenSmallestTracks() {
        RustRails game = Checks.gameOf("R4t121t121t012t231t012t023");
        way(game, 0, 0, 1, 9, numbers(2, 2, 1, 2));
        way(game, 0, 0, 2, 9, numbers(3, 3, 2, 2));
        way(game, 0, 0, 3, 9, numbers(4, 4, 3, 2));
        way(game, 0, 2, 0, 9, numbers(3, 3, 2, 0));
        RustRails direct = Checks.gameOf("R3t023t011t122");
        way(direct, 0, 0, 2, 9, numbers(3, 3, 1, 0));
        RustRails runs = Checks.gameOf("R3t011t011t122t122c02999");
        runs.buyTrack(1, 0);
        runs.buyTrack(2, 2);
        runs.buyTrain(0, 1);
        runs.take(0, 0);
        CHECKS.due("the cost", 3, () -> runs.run(0, 0));
        CHECKS.due("track 0, not 1", 1, () -> runs.company(1, 5));
        CHECKS.due("track 2, not 3", 2, () -> runs.company(2, 5));
    }

    private static void reach() {
        RustRails game = Checks.gameOf("R4t015t125");
        way(game, 0, 0, 1, 4, none());
        way(game, 0, 0, 1, 5, numbers(5, 5, 1, 0));
        way(game, 0, 0, 2, 9, none());
        way(game, 0, 0, 2, 10, numbers(10, 10, 2, 0));
        way(game, 0, 0, 3, 24, none());
        way(game, 0, 3, 0, 24, none());
        way(game, 0, 0, 1, 1, none());
    }

    private static void longestWay() {
        RustRails game = Checks.gameOf("R9t013t123t233t343t453t563t673t783");
        way(game, 0, 0, 8, 24, numbers(24, 24, 8, 0));
        way(game, 0, 8, 0, 24, numbers(24, 24, 8, 7));
        way(game, 0, 0, 8, 23, none());
    }

    private static void wrongCalls() {
        RustRails game = new RustRails();
        CHECKS.outOfBounds("company 4", () -> game.way(4, 0, 0, 0, 9));
        CHECKS.outOfBounds("company -1", () -> game.way(-1, 0, 1, 9, 0));
        CHECKS.outOfBounds("city 3", () -> game.way(0, 3, 3, 9, 0));
        CHECKS.outOfBounds("city 3 from", () -> game.way(0, 3, 0, 9, 0));
        CHECKS.outOfBounds("city 3 to", () -> game.way(0, 0, 3, 9, 0));
        CHECKS.outOfBounds("city -1 from", () -> game.way(0, -1, 0, 9, 0));
        CHECKS.outOfBounds("city -1", () -> game.way(0, 0, -1, 0, 0));
        CHECKS.badArgument("the same city", () -> game.way(0, 1, 1, 9, 0));
        CHECKS.badArgument("reach 0", () -> game.way(0, 0, 1, 0, 0));
        CHECKS.badArgument("reach 25", () -> game.way(0, 0, 1, 25, 0));
        CHECKS.badArgument("what -1", () -> game.way(0, 0, 1, 9, -1));
        CHECKS.badArgument("what 4", () -> game.way(0, 0, 1, 9, 4));
    }

    private static void reasons() {
        RustRails game = Checks.gameOf("R4t012t125c01905c02305c03305");
        CHECKS.outOfBounds("contract 3", () -> game.whyNot(3, 0));
        CHECKS.outOfBounds("contract -1", () -> game.whyNot(-1, 0));
        CHECKS.due("no holder", 1, () -> game.whyNot(0, 0));
        CHECKS.due("no holder, whatever the train", 1, () -> game.whyNot(0, -5));
        game.buyTrain(0, 1);
        game.buyTrain(0, 2);
        for (int k = 0; k < 3; k++) {
            game.take(0, k);
        }
        CHECKS.outOfBounds("train 2", () -> game.whyNot(0, 2));
        CHECKS.outOfBounds("train -1", () -> game.whyNot(0, -1));
        CHECKS.due("possible", 0, () -> game.whyNot(0, 0));
        CHECKS.due("too far for level 1", 4, () -> game.whyNot(1, 0));
        CHECKS.due("not for level 2", 0, () -> game.whyNot(1, 1));
        CHECKS.due("nowhere", 4, () -> game.whyNot(2, 1));
        game.run(0, 0);
        CHECKS.due("was run, before the train ran", 2, () -> game.whyNot(0, 0));
        CHECKS.due("was run", 2, () -> game.whyNot(0, 1));
        CHECKS.due("ran, before no way", 3, () -> game.whyNot(1, 0));
        CHECKS.due("not ran", 0, () -> game.whyNot(1, 1));
        game.endRound();
        CHECKS.due("the next round", 0, () -> game.whyNot(0, 0));
    }

    private static void levels() {
        RustRails game = Checks.gameOf("R9t013t123t233t343t453t563t673t783c01015c02015c03015c06015c08015c20015");
        CHECKS.due("3", 1, () -> game.levelFor(0, 0));
        CHECKS.due("6", 2, () -> game.levelFor(0, 1));
        CHECKS.due("9", 3, () -> game.levelFor(3, 2));
        CHECKS.due("18", 5, () -> game.levelFor(0, 3));
        CHECKS.due("24", 6, () -> game.levelFor(0, 4));
        CHECKS.due("back", 2, () -> game.levelFor(0, 5));
        CHECKS.outOfBounds("company 4", () -> game.levelFor(4, 0));
        CHECKS.outOfBounds("company -1", () -> game.levelFor(-1, 0));
        CHECKS.outOfBounds("contract 6", () -> game.levelFor(0, 6));
        CHECKS.outOfBounds("contract -1", () -> game.levelFor(0, -1));
        RustRails far = Checks.gameOf("R4t019t129t239c03015c20015");
        CHECKS.due("27", RustRails.NONE, () -> far.levelFor(0, 0));
        CHECKS.due("18", 5, () -> far.levelFor(0, 1));
    }
}
