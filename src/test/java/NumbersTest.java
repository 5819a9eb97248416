/** Promises 6 to 10: about, track, company, train, contract. */
final class NumbersTest {
    private static final Checks CHECKS = new Checks();

    public static void main(String[] args) {
        books();
        sums();
        whatIsBought();
        wrongNumbers();
        CHECKS.end();
    }

    /** Company 0 runs over a track of its own, one of company 1 and one of the bank; contract 1 is not served. */
    private static void books() {
        RustRails game = Checks.gameOf("R4t012t123t231c03305c12092");
        game.buyTrack(0, 0);
        game.buyTrack(1, 1);
        game.setRent(1, 4);
        game.buyTrain(0, 2);
        game.take(0, 0);
        game.take(1, 1);
        CHECKS.due("run", 13, () -> game.run(0, 0));
        CHECKS.same("after a run", Checks.picture(game),
                "4 3 2 2 0 -374 13 30 0 0 0 | 0,1,2,0 1,2,3,1 2,3,1,-9 "
                + "| 71 1 1 1 1 0 0 2! | 103 4 0 1 1 12 0 | 100 1 0 0 0 0 0 | 100 1 0 0 0 0 0 "
                + "| 0,3,30,5,0,1 1,2,9,2,1,0 ");
        CHECKS.due("endRound", 0, () -> game.endRound());
        CHECKS.same("after the round", Checks.picture(game),
                "4 3 2 2 1 -365 13 30 5 0 0 | 0,1,2,0 1,2,3,1 2,3,1,-9 "
                + "| 68 1 1 1 1 0 0 2 | 97 4 0 1 1 12 0 | 100 1 0 0 0 0 0 | 100 1 0 0 0 0 0 "
                + "| 0,3,30,4,0,0 1,2,9,1,1,0 ");
    }

    /** The sums of about: company 0 has its part in them, too. */
    private static void sums() {
        RustRails game = Checks.gameOf("R2t019c01011");
        game.buyTrack(0, 0);
        game.buyTrain(1, 2);
        game.buyTrain(1, 3);
        game.setRent(0, 2);
        game.take(1, 0);
        game.run(0, 1);
        CHECKS.due("rents", 18, () -> game.about(6));
        CHECKS.due("rents of company 0", 18, () -> game.company(0, 5));
        CHECKS.due("pays", 1, () -> game.about(7));
        CHECKS.due("company 1 is bankrupt", 1, () -> game.endRound());
        CHECKS.due("73 + 18 - 1 coins", 90, () -> game.company(0, 0));
        game.buyTrain(0, 2);
        game.buyTrain(0, 2);
        CHECKS.due("10 coins, 5 a round", 0, () -> game.endRound());
        CHECKS.due("5 coins", 0, () -> game.endRound());
        CHECKS.due("0 coins", 1, () -> game.endRound());
        CHECKS.due("both bankruptcies", 2, () -> game.about(9));
        CHECKS.due("that of company 0", 1, () -> game.company(0, 6));
    }

    private static void whatIsBought() {
        RustRails game = new RustRails();
        game.buyTrack(3, 1);
        game.buyTrain(3, 1);
        game.buyTrain(3, 2);
        CHECKS.due("the owner of a track", 3, () -> game.track(1, 3));
        CHECKS.due("the bank's track", RustRails.NONE, () -> game.track(0, 3));
        CHECKS.due("trains", 2, () -> game.company(3, 2));
        CHECKS.due("tracks", 1, () -> game.company(3, 3));
        CHECKS.due("level of the first", 1, () -> game.train(3, 0, 0));
        CHECKS.due("level of the second", 2, () -> game.train(3, 1, 0));
        CHECKS.outOfBounds("no third train", () -> game.train(3, 2, 0));
        CHECKS.outOfBounds("no trains of company 0", () -> game.train(0, 0, 0));
    }

    private static void wrongNumbers() {
        RustRails game = new RustRails();
        game.offer(0, 2, 9, 9);
        game.buyTrain(0, 1);
        CHECKS.badArgument("about(-1)", () -> game.about(-1));
        CHECKS.badArgument("about(11)", () -> game.about(11));
        CHECKS.badArgument("track what -1", () -> game.track(0, -1));
        CHECKS.badArgument("track what 4", () -> game.track(1, 4));
        CHECKS.outOfBounds("track -1", () -> game.track(-1, 9));
        CHECKS.outOfBounds("track 2", () -> game.track(2, 0));
        CHECKS.badArgument("company what -1", () -> game.company(0, -1));
        CHECKS.badArgument("company what 7", () -> game.company(3, 7));
        CHECKS.outOfBounds("company -1", () -> game.company(-1, 7));
        CHECKS.outOfBounds("company 4", () -> game.company(4, 0));
        CHECKS.badArgument("train what -1", () -> game.train(0, 0, -1));
        CHECKS.badArgument("train what 2", () -> game.train(0, 0, 2));
        CHECKS.outOfBounds("train of company 4", () -> game.train(4, 0, 0));
        CHECKS.outOfBounds("train of company -1", () -> game.train(-1, 0, 0));
        CHECKS.outOfBounds("train -1", () -> game.train(0, -1, 2));
        CHECKS.outOfBounds("train 1", () -> game.train(0, 1, 2));
        CHECKS.badArgument("contract what -1", () -> game.contract(0, -1));
        CHECKS.badArgument("contract what 6", () -> game.contract(0, 6));
        CHECKS.outOfBounds("contract -1", () -> game.contract(-1, 6));
        CHECKS.outOfBounds("contract 1", () -> game.contract(1, 0));
    }
}
