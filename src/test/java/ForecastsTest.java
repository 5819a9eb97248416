/** Promises 22 to 25: bestContract, coinsAfter, bankruptAfter, worth. */
final class ForecastsTest {
    private static final Checks CHECKS = new Checks();

    public static void main(String[] args) {
        bestContract();
        bestBelowZero();
        bestWithTheGreatestReach();
        bestWithItsOwnTrains();
        coins();
        bankrupt();
        worth();
        wrongCalls();
        CHECKS.end();
    }

    private static void bestContract() {
        RustRails game = Checks.gameOf("R4t012t122c02105c01082c12085c03999");
        CHECKS.due("no train", RustRails.NONE, () -> game.bestContract(0));
        game.buyTrain(0, 1);
        CHECKS.due("6 of 8 - 2, before 10 - 4", 0, () -> game.bestContract(0));
        game.take(1, 0);
        CHECKS.due("the smaller of equal ones", 1, () -> game.bestContract(0));
        game.buyTrack(0, 1);
        CHECKS.due("its own track is free", 2, () -> game.bestContract(0));
        game.take(0, 2);
        game.run(2, 0);
        CHECKS.due("also if the train ran", 1, () -> game.bestContract(0));
        game.take(0, 1);
        CHECKS.due("none without a holder and with a way", RustRails.NONE, () -> game.bestContract(0));
        CHECKS.due("of another company", RustRails.NONE, () -> game.bestContract(2));
    }

    private static void bestBelowZero() {
        RustRails game = Checks.gameOf("R2t014c01011c10021");
        game.buyTrain(0, 1);
        CHECKS.due("2 - 4 is more than 1 - 4", 1, () -> game.bestContract(0));
        game.take(1, 1);
        CHECKS.due("1 - 4 is all that is left", 0, () -> game.bestContract(0));
    }

    private static void bestWithTheGreatestReach() {
        RustRails game = Checks.gameOf("R3t013t125t025c01045c02105");
        game.buyTrack(1, 0);
        game.setRent(1, 9);
        game.buyTrain(0, 2);
        CHECKS.due("10 - 5 by track 2", 1, () -> game.bestContract(0));
        game.buyTrain(0, 3);
        game.buyTrack(2, 1);
        game.buyTrack(2, 2);
        game.setRent(2, 0);
        CHECKS.due("10 - 0", 1, () -> game.bestContract(0));
        game.take(3, 1);
        CHECKS.due("4 - 0 by two tracks with level 3", 0, () -> game.bestContract(0));
        RustRails best = Checks.gameOf("R3t019t121t021c01105c12095");
        best.buyTrain(0, 1);
        CHECKS.due("10 - 2 and 9 - 1", 0, () -> best.bestContract(0));
    }

    /** Not the trains of others, nor those that are gone. */
    private static void bestWithItsOwnTrains() {
        RustRails game = Checks.gameOf("R2t015c01905");
        for (int j = 0; j < 4; j++) {
            game.buyTrain(0, 1);
        }
        game.buyTrain(1, 2);
        CHECKS.due("four trains of level 1", RustRails.NONE, () -> game.bestContract(0));
        CHECKS.due("one of level 2", 0, () -> game.bestContract(1));
        game.buyTrain(2, 3);
        game.buyTrain(3, 4);
        CHECKS.due("it has rusted", RustRails.NONE, () -> game.bestContract(1));
    }

    private static void coins() {
        RustRails game = Checks.gameOf("R2t011c01103c10102");
        game.buyTrain(0, 2);
        game.take(0, 0);
        game.take(0, 1);
        game.run(0, 0);
        CHECKS.due("now", 69, () -> game.coinsAfter(0, 0));
        CHECKS.due("upkeep and one fine", 62, () -> game.coinsAfter(0, 1));
        CHECKS.due("upkeep and two fines", 50, () -> game.coinsAfter(0, 2));
        CHECKS.due("upkeep and the last fine", 43, () -> game.coinsAfter(0, 3));
        CHECKS.due("upkeep", 1, () -> game.coinsAfter(0, 24));
        CHECKS.due("bankrupt", 0, () -> game.coinsAfter(0, 25));
        CHECKS.due("no trains after that", 0, () -> game.coinsAfter(0, 50));
        CHECKS.due("of another", 100, () -> game.coinsAfter(3, 50));
        CHECKS.due("nothing has changed", 69, () -> game.company(0, 0));
        CHECKS.due("not even the round", 0, () -> game.about(4));
        CHECKS.due("a forecast is no action", 4 - 1, () -> game.undo());
    }

    private static void bankrupt() {
        RustRails game = Checks.gameOf("R2t011t019");
        CHECKS.due("never", RustRails.NONE, () -> game.bankruptAfter(0));
        game.buyTrain(0, 2);
        CHECKS.due("60 coins, 2 a round", 31, () -> game.bankruptAfter(0));
        game.buyTrain(0, 2);
        CHECKS.due("20 coins, 4 a round", 6, () -> game.bankruptAfter(0));
        game.buyTrain(1, 2);
        game.buyTrack(1, 0);
        CHECKS.due("57 coins, 3 a round", 20, () -> game.bankruptAfter(1));
        game.buyTrack(2, 1);
        CHECKS.due("73 coins, 1 a round", RustRails.NONE, () -> game.bankruptAfter(2));
        CHECKS.due("it has been bankrupt, but will not be again", RustRails.NONE, () -> {
            RustRails other = Checks.gameOf("R2t019");
            for (int j = 0; j < 4; j++) {
                other.buyTrain(0, 1);
            }
            while (other.company(0, 6) == 0) {
                other.endRound();
            }
            return other.bankruptAfter(0);
        });
        RustRails now = Checks.gameOf("R2t019c01015");
        now.buyTrack(1, 0);
        now.setRent(1, 9);
        now.buyTrain(0, 2);
        now.buyTrain(0, 3);
        now.take(0, 0);
        now.run(0, 1);
        CHECKS.due("at the end of this round", 1, () -> now.bankruptAfter(0));
        CHECKS.due("nothing has changed", -80, () -> now.company(0, 0));
        CHECKS.due("98 coins, 2 a round", 50, () -> afterRunFor(39).bankruptAfter(0));
        CHECKS.due("99 coins, 2 a round", 50, () -> afterRunFor(40).bankruptAfter(0));
        CHECKS.due("100 coins, 2 a round", RustRails.NONE, () -> afterRunFor(41).bankruptAfter(0));
        CHECKS.due("they are just 0 then", 0, () -> afterRunFor(41).company(0, 6));
    }

    /** Company 0 has 60 coins, less 1 for the way, and the pay; its train of level 2 costs 2 a round. */
    private static RustRails afterRunFor(int pay) {
        RustRails game = Checks.gameOf("R2t011");
        game.buyTrain(0, 2);
        game.offer(0, 1, pay, 1);
        game.take(0, 0);
        game.run(0, 0);
        return game;
    }

    private static void worth() {
        RustRails game = new RustRails();
        CHECKS.due("coins", 100, () -> game.worth(3));
        game.buyTrack(3, 0);
        CHECKS.due("a track is worth its price", 100, () -> game.worth(3));
        game.buyTrain(3, 2);
        CHECKS.due("a train half of it", 80, () -> game.worth(3));
        game.buyTrain(3, 1);
        CHECKS.due("two trains", 70, () -> game.worth(3));
        CHECKS.due("another", 100, () -> game.worth(0));
    }

    private static void wrongCalls() {
        RustRails game = new RustRails();
        CHECKS.outOfBounds("bestContract(4)", () -> game.bestContract(4));
        CHECKS.outOfBounds("bestContract(-1)", () -> game.bestContract(-1));
        CHECKS.outOfBounds("coinsAfter(4, 51)", () -> game.coinsAfter(4, 51));
        CHECKS.outOfBounds("coinsAfter(-1, 0)", () -> game.coinsAfter(-1, 0));
        CHECKS.badArgument("coinsAfter(0, -1)", () -> game.coinsAfter(0, -1));
        CHECKS.badArgument("coinsAfter(0, 51)", () -> game.coinsAfter(0, 51));
        CHECKS.outOfBounds("bankruptAfter(4)", () -> game.bankruptAfter(4));
        CHECKS.outOfBounds("bankruptAfter(-1)", () -> game.bankruptAfter(-1));
        CHECKS.outOfBounds("worth(4)", () -> game.worth(4));
        CHECKS.outOfBounds("worth(-1)", () -> game.worth(-1));
    }
}
