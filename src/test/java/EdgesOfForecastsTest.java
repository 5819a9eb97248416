/** The edges of promises 22 to 25. */
final class EdgesOfForecastsTest {
    private static final int NONE = Edges.NONE;
    private static final Edges.Recipe[] GAMES = {RustRails::new, Games::young, Games::old, Games::closed,
        () -> Games.rich(4), () -> Games.counted(7, 1), EdgesOfForecastsTest::inDebt};

    private final Edges edges;

    private EdgesOfForecastsTest(Edges edges) {
        this.edges = edges;
    }

    public static void main(String[] args) {
        Edges.test(EdgesOfForecastsTest::all);
    }

    static void all(Edges edges) {
        EdgesOfForecastsTest test = new EdgesOfForecastsTest(edges);
        test.noBestContract();
        test.reachOfBest();
        test.greatestReach();
        test.trainsOfOthers();
        test.ranOrNot();
        test.greatestGain();
        test.gainsBelowZero();
        test.equalGains();
        test.coinsAsPlayed();
        test.coinsOfFirstAndLastRound();
        test.contractsOfForecasts();
        test.bankruptAsPlayed();
        test.lastRoundOfForecast();
        test.bankruptAtOnce();
        test.bankruptBefore();
        test.worths();
        test.companies();
    }

    /** Company 0 has -80 coins, and two trains; company 1 got its rent. */
    private static RustRails inDebt() {
        RustRails game = Checks.gameOf("R2t019c01015");
        game.buyTrack(1, 0);
        game.setRent(1, 9);
        game.buyTrain(0, 2);
        game.buyTrain(0, 3);
        game.take(0, 0);
        game.run(0, 1);
        return game;
    }

    // ---- promise 22

    private void best(String what, int due, RustRails game) {
        edges.answers(what, due, game, it -> it.bestContract(0));
    }

    private void noBestContract() {
        edges.promise(22, "NONE if there is none.", "among the contracts without a holder for which the company has a train "
                + "with a way");
        best("no contract", NONE, new RustRails());
        best("no train", NONE, Checks.gameOf("R2t011c01995"));
        RustRails game = Checks.gameOf("R2t011c01995");
        game.buyTrain(1, 1);
        best("no train of its own", NONE, game);
        edges.answers("of another", 0, game, it -> it.bestContract(1));
        game.buyTrain(0, 1);
        best("one", 0, game);
        game.take(0, 0);
        best("it holds it", NONE, game);
        game.offer(1, 0, 1, 1);
        best("another one", 1, game);
        game.take(3, 1);
        best("another holds it", NONE, game);
        RustRails far = Checks.gameOf("R4t011c01505c02995c03995");
        far.buyTrain(0, 1);
        best("of those with a way", 0, far);
        far.take(1, 0);
        best("none with a way", NONE, far);
    }

    private void reachOfBest() {
        edges.promise(22, "among the contracts without a holder for which the company has a train with a way");
        for (int last = 1; last <= 6; last++) {
            int level = last;
            RustRails game = Games.reaching(level);
            game.offer(0, 3, 30, 1);
            game.offer(4, 7, 99, 1);
            best("as far as the reach of level " + level, 4, game);
            game.take(1, 4);
            best("not farther", NONE, game);
        }
    }

    /** Company 1 asks no rent for the detour of length 7, and 3 for the direct track of length 4. */
    private static RustRails detour() {
        RustRails game = Checks.gameOf("R4t014t023t214t131c01105c13055");
        for (int t = 0; t < 3; t++) {
            game.buyTrack(t == 0 ? 2 : 1, t);
        }
        game.setRent(1, 0);
        game.setRent(2, 3);
        return game;
    }

    private void greatestReach() {
        edges.promise(22, "the one with the greatest pay less cost (also below 0) (of its way with the greatest reach of its "
                + "trains), among several the smallest number;");
        RustRails near = detour();
        near.buyTrain(0, 1);
        best("5 - 1 is more than 10 - 12", 1, near);
        RustRails far = detour();
        far.buyTrain(0, 2);
        best("10 - 0 by the detour", 0, far);
        RustRails lastTrain = detour();
        lastTrain.buyTrain(0, 1);
        lastTrain.buyTrain(0, 2);
        best("the last train reaches farthest", 0, lastTrain);
        RustRails firstTrain = detour();
        firstTrain.buyTrain(0, 2);
        firstTrain.buyTrain(0, 1);
        best("the first train reaches farthest", 0, firstTrain);
        RustRails middle = detour();
        middle.buyTrain(0, 1);
        middle.buyTrain(0, 2);
        middle.buyTrain(0, 1);
        best("the second of three", 0, middle);
        RustRails rusted = detour();
        rusted.buyTrain(0, 2);
        rusted.buyTrain(1, 3);
        rusted.buyTrain(2, 2);
        rusted.buyTrain(0, 2);
        rusted.buyTrain(3, 4);
        best("its trains are gone", NONE, rusted);
        RustRails bankrupt = detour();
        bankrupt.buyTrain(0, 2);
        bankrupt.buyTrain(0, 3);
        bankrupt.endRound();
        best("its trains are gone by bankruptcy", NONE, bankrupt);
    }

    /** The fourth train of a company is not one of the next company, nor the first one of the company before it. */
    private void trainsOfOthers() {
        edges.promise(22, "among the contracts without a holder for which the company has a train with a way",
                "(of its way with the greatest reach of its trains)");
        for (int i = 0; i <= 3; i++) {
            int owner = i;
            RustRails game = Checks.gameOf("R2t015c01505");
            for (int j = 0; j < 3; j++) {
                game.buyTrain(owner, 1);
            }
            game.buyTrain(owner, 2);
            for (int other = 0; other <= 3; other++) {
                int company = other;
                int due = company == owner ? 0 : NONE;
                edges.answers("no trains", due, game, it -> it.bestContract(company));
                if (company != owner) {
                    game.buyTrain(company, 1);
                }
                edges.answers("too short a reach", due, game, it -> it.bestContract(company));
            }
        }
    }

    private void ranOrNot() {
        edges.promise(22, "(whether it ran or not)");
        RustRails game = Checks.gameOf("R2t011c01505c01995c01605");
        game.buyTrain(0, 1);
        game.take(0, 0);
        best("it did not run", 1, game);
        game.run(0, 0);
        best("it ran", 1, game);
        game.take(1, 1);
        best("it ran", 2, game);
    }

    private void greatestGain() {
        edges.promise(22, "the one with the greatest pay less cost (also below 0) (of its way with the greatest reach of its "
                + "trains), among several the smallest number;");
        String[] cases = {"10 09", "10 10", "10 11", "09 10", "01 99", "99 01", "01 01", "99 99"};
        int[] due = {0, 0, 1, 1, 1, 0, 0, 0};
        for (int place = 0; place < cases.length; place++) {
            String[] pays = cases[place].split(" ");
            RustRails game = Checks.gameOf("R2t011c01" + pays[0] + "5c10" + pays[1] + "5");
            game.buyTrain(0, 1);
            best("pays " + cases[place], due[place], game);
        }
        for (int more = -1; more <= 1; more++) {
            RustRails game = Checks.gameOf("R3t011t123c01105c121" + (2 + more) + "5");
            game.buyTrain(0, 1);
            best("10 - 1 and " + (12 + more) + " - 3", more > 0 ? 1 : 0, game);
            RustRails own = Checks.gameOf("R3t123t011c12105c010" + (7 + more) + "5");
            own.buyTrack(0, 1);
            own.buyTrain(0, 1);
            best("10 - 3 and " + (7 + more) + " - 0", more > 0 ? 1 : 0, own);
        }
    }

    private void gainsBelowZero() {
        edges.promise(22, "(also below 0)");
        for (int length = 1; length <= 8; length++) {
            for (int rent = 1; rent <= 9; rent++) {
                RustRails game = Checks.gameOf("R2t01" + length + "c01015");
                game.buyTrack(1, 0);
                game.setRent(1, rent);
                game.buyTrain(0, 2);
                best("1 - " + length * rent, 0, game);
            }
        }
        for (int pay = 1; pay <= 3; pay++) {
            RustRails game = Checks.gameOf("R2t015c01025c010" + pay + "5");
            game.buyTrack(1, 0);
            game.setRent(1, 2);
            game.buyTrain(0, 2);
            best("2 - 10 and " + pay + " - 10", pay == 3 ? 1 : 0, game);
            RustRails other = Checks.gameOf("R2t015c010" + pay + "5c01025");
            other.buyTrack(1, 0);
            other.setRent(1, 2);
            other.buyTrain(0, 2);
            best(pay + " - 10 and 2 - 10", pay == 1 ? 1 : 0, other);
        }
    }

    private void equalGains() {
        edges.promise(22, "among several the smallest number;");
        RustRails game = Checks.gameOf("R2t011" + "c01505".repeat(8));
        game.buyTrain(0, 1);
        for (int k = 0; k < 8; k++) {
            best("of " + (8 - k), k, game);
            game.take(k % 4, k);
        }
        best("of none", NONE, game);
    }

    // ---- promise 23

    private static RustRails later(Edges.Recipe recipe, int rounds) {
        RustRails game = recipe.game();
        for (int round = 0; round < rounds; round++) {
            game.endRound();
        }
        return game;
    }

    private void coinsAsPlayed() {
        edges.promise(23, "Tells the coins of a company after rounds without other changes (so without runs).",
                "Returns the coins.", "`m`: number of rounds, 0 to 50");
        for (Edges.Recipe recipe : GAMES) {
            for (int rounds : new int[] {0, 1, 2, 3, 10, 49, 50}) {
                int m = rounds;
                for (int i = 0; i <= 3; i++) {
                    int company = i;
                    int due = later(recipe, m).company(company, 0);
                    edges.answers("company " + company + " after " + m, due, recipe.game(), it -> it.coinsAfter(company, m));
                }
            }
        }
    }

    private void coinsOfFirstAndLastRound() {
        edges.promise(23, "`m`: number of rounds, 0 to 50", "Throws `IllegalArgumentException` if m is out of range");
        Edges.Recipe recipe = () -> {
            RustRails game = Checks.gameOf("R2t019");
            game.buyTrack(2, 0);
            return game;
        };
        int[] rounds = {0, 1, 2, 49, 50};
        for (int m : rounds) {
            edges.onlyAnswers("after " + m, 73 - m, recipe, game -> game.coinsAfter(2, m));
        }
        for (int m : new int[] {-1, 51, Integer.MIN_VALUE, Integer.MAX_VALUE}) {
            edges.refuses("m " + m, Edges.OUT_OF_RANGE, recipe, game -> game.coinsAfter(2, m));
            edges.refuses("company 4, m " + m, Edges.NO_SUCH, recipe, game -> game.coinsAfter(4, m));
        }
        edges.onlyAnswers("now, below 0", -80, EdgesOfForecastsTest::inDebt, game -> game.coinsAfter(0, 0));
        edges.onlyAnswers("after a bankruptcy", 0, EdgesOfForecastsTest::inDebt, game -> game.coinsAfter(0, 1));
        edges.onlyAnswers("long after it", 0, EdgesOfForecastsTest::inDebt, game -> game.coinsAfter(0, 50));
    }

    private void contractsOfForecasts() {
        edges.promise(23, "Tells the coins of a company after rounds without other changes (so without runs).");
        Edges.Recipe recipe = () -> {
            RustRails game = Checks.gameOf("R2t011c01103c01101");
            game.buyTrain(0, 1);
            game.take(0, 0);
            game.take(3, 1);
            game.run(0, 0);
            return game;
        };
        int[] due = {89, 88, 82, 76, 75, 74};
        for (int m = 0; m < due.length; m++) {
            int rounds = m;
            edges.onlyAnswers("no fine for the first round, then two, then none", due[m], recipe,
                    game -> game.coinsAfter(0, rounds));
        }
        edges.onlyAnswers("one fine", 95, recipe, game -> game.coinsAfter(3, 1));
        edges.onlyAnswers("no more", 95, recipe, game -> game.coinsAfter(3, 50));
    }

    // ---- promise 24

    private void bankruptAsPlayed() {
        edges.promise(24, "Returns the smallest number of rounds, 1 to 50, at the end of the last one of which (without other "
                + "changes) it is bankrupt; NONE if there is none.");
        for (Edges.Recipe recipe : GAMES) {
            for (int i = 0; i <= 3; i++) {
                int company = i;
                RustRails game = recipe.game();
                int before = game.company(i, 6);
                int due = NONE;
                for (int round = 1; round <= 50 && due == NONE; round++) {
                    game.endRound();
                    due = game.company(i, 6) > before ? round : NONE;
                }
                edges.answers("company " + i, due, recipe.game(), it -> it.bankruptAfter(company));
            }
        }
    }

    /** Company 1 pays 1 in a round, and has 73 coins less the rounds that have been. */
    private void lastRoundOfForecast() {
        edges.promise(24, "Returns the smallest number of rounds, 1 to 50, at the end of the last one of which (without other "
                + "changes) it is bankrupt; NONE if there is none.");
        Edges.Recipe recipe = () -> {
            RustRails game = Checks.gameOf("R2t019");
            game.buyTrack(1, 0);
            return game;
        };
        for (int rounds = 0; rounds <= 73; rounds++) {
            int coins = 73 - rounds;
            int due = coins < 50 ? coins + 1 : NONE;
            edges.answers(coins + " coins", due, later(recipe, rounds), game -> game.bankruptAfter(1));
        }
        Edges.Recipe last = () -> later(recipe, 24);
        Edges.Recipe never = () -> later(recipe, 23);
        edges.onlyAnswers("49 coins", 50, last, game -> game.bankruptAfter(1));
        edges.onlyAnswers("50 coins", NONE, never, game -> game.bankruptAfter(1));
        edges.onlyAnswers("they are 0 then", 0, never, game -> game.coinsAfter(1, 50));
        edges.onlyAnswers("another one", NONE, last, game -> game.bankruptAfter(0));
    }

    private void bankruptAtOnce() {
        edges.promise(24, "Returns the smallest number of rounds, 1 to 50, at the end of the last one of which (without other "
                + "changes) it is bankrupt; NONE if there is none.");
        for (int coins = 4; coins <= 6; coins++) {
            RustRails game = Games.counted(coins, 1);
            edges.answers(coins + " coins, 5 for upkeep", coins < 5 ? 1 : 2, game, it -> it.bankruptAfter(1));
        }
        edges.onlyAnswers("coins below 0", 1, EdgesOfForecastsTest::inDebt, game -> game.bankruptAfter(0));
        RustRails saved = inDebt();
        saved.endRound();
        edges.answers("not again", NONE, saved, game -> game.bankruptAfter(0));
        saved.take(0, 0);
        edges.answers("by a fine again", 1, saved, game -> game.bankruptAfter(0));
    }

    private void bankruptBefore() {
        edges.promise(24, "Tells when a company is bankrupt.");
        for (Edges.Recipe recipe : GAMES) {
            RustRails game = later(recipe, 120);
            for (int i = 0; i <= 3; i++) {
                int company = i;
                if (game.company(i, 6) > 0) {
                    edges.answers("a bankruptcy that is over does not count", NONE, game, it -> it.bankruptAfter(company));
                }
            }
        }
    }

    // ---- promise 25

    private void worths() {
        edges.promise(25, "Tells what a company is worth: its coins, 3 times the lengths of its tracks, and 10 times the levels "
                + "of its trains.", "Returns that sum.");
        edges.answers("coins alone", 100, new RustRails(), game -> game.worth(0));
        for (int length = 1; length <= 9; length++) {
            RustRails game = Checks.gameOf("R2t01" + length + "t011");
            game.buyTrack(3, 0);
            edges.answers("a track of length " + length, 100, game, it -> it.worth(3));
            game.endRound();
            edges.answers("after upkeep", 99, game, it -> it.worth(3));
            edges.answers("another", 100, game, it -> it.worth(2));
        }
        for (int phase = 1; phase <= 6; phase++) {
            for (int l = Math.max(1, phase - 1); l <= Math.min(6, phase + 1); l++) {
                int level = l;
                RustRails game = Games.counted(130, phase);
                edges.answers("before", 130 + 3, game, it -> it.worth(1));
                game.buyTrain(1, level);
                edges.answers("with level " + level, 133 - 10 * level, game, it -> it.worth(1));
            }
        }
        edges.onlyAnswers("below 0", -80 + 10 * 5, EdgesOfForecastsTest::inDebt, game -> game.worth(0));
        edges.onlyAnswers("of the owner", 73 + 81 + 27, EdgesOfForecastsTest::inDebt, game -> game.worth(1));
        edges.answers("after a bankruptcy", 0, later(EdgesOfForecastsTest::inDebt, 1), game -> game.worth(0));
        RustRails most = Checks.gameOf("R2" + "t011".repeat(16));
        for (int t = 0; t < 16; t++) {
            most.buyTrack(0, t);
        }
        most.buyTrain(0, 2);
        edges.answers("all tracks", 100 - 40 + 20, most, game -> game.worth(0));
        RustRails four = new RustRails();
        for (int j = 0; j < 4; j++) {
            four.buyTrain(2, 1);
        }
        edges.answers("four trains", 20 + 40, four, game -> game.worth(2));
    }

    private void companies() {
        for (int promise = 22; promise <= 25; promise++) {
            edges.promise(promise, "`i`: company, 0 to 3",
                    "Throws `IndexOutOfBoundsException` if there is no such company");
            for (int i : new int[] {-1, 4, NONE, 5}) {
                int number = promise;
                edges.refuses("company " + i, Edges.NO_SUCH, Games::old, game -> forecast(game, number, i));
            }
            for (int i : new int[] {0, 3}) {
                int number = promise;
                int due = forecast(Games.old(), number, i);
                edges.onlyAnswers("company " + i, due, Games::old, game -> forecast(game, number, i));
            }
        }
    }

    private static int forecast(RustRails game, int promise, int i) {
        switch (promise) {
            case 22: return game.bestContract(i);
            case 23: return game.coinsAfter(i, 5);
            case 24: return game.bankruptAfter(i);
            default: return game.worth(i);
        }
    }
}
