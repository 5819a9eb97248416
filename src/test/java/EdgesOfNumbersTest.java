/** The edges of promises 6 to 10, and of what the document says of companies, of the bank and of coins. */
final class EdgesOfNumbersTest {
    private static final int NONE = Edges.NONE;

    private final Edges edges;

    private EdgesOfNumbersTest(Edges edges) {
        this.edges = edges;
    }

    public static void main(String[] args) {
        Edges.test(EdgesOfNumbersTest::all);
    }

    static void all(Edges edges) {
        EdgesOfNumbersTest test = new EdgesOfNumbersTest(edges);
        test.aboutAtFirst();
        test.rentsSoFar();
        test.paysAndFinesSoFar();
        test.bankruptciesSoFar();
        test.rustSoFar();
        test.tracks();
        test.companiesAtFirst();
        test.companiesWithMost();
        test.rentsThatItGot();
        test.howOftenBankrupt();
        test.trains();
        test.contracts();
        test.theBank();
        test.allCoins();
        test.coinsBelowZero();
    }

    private static String numbers(RustRails game, int most, Edges.Call... calls) {
        StringBuilder row = new StringBuilder();
        for (Edges.Call call : calls) {
            row.append(call.on(game)).append(row.length() < most ? " " : "");
        }
        return row.toString();
    }

    // ---- promise 6

    private void aboutAtFirst() {
        edges.promise(6, "`what`: 0: n; 1: the number of tracks; 2: of contracts; 3: the phase; 4: the round; 5: the coins "
                + "of the bank; 6: rents paid so far (those to the bank, too); 7: pays so far; 8: fines so far; "
                + "9: bankruptcies so far; 10: trains that rusted so far (those of bankruptcies do not count)",
                "Throws `IllegalArgumentException` if what is not 0 to 10", "Returns that number.");
        int[] due = {3, 2, 0, 1, 0, -400, 0, 0, 0, 0, 0};
        for (int number = 0; number <= 10; number++) {
            int what = number;
            edges.onlyAnswers("about(" + what + ")", due[what], RustRails::new, game -> game.about(what));
        }
        edges.refuses("about(-1)", Edges.OUT_OF_RANGE, RustRails::new, game -> game.about(-1));
        edges.refuses("about(11)", Edges.OUT_OF_RANGE, RustRails::new, game -> game.about(11));
        edges.answers("tracks, none", 0, Checks.gameOf("R2"), game -> game.about(1));
        edges.answers("tracks, as many as can be", 16, Checks.gameOf("R2" + "t011".repeat(16)), game -> game.about(1));
        edges.answers("contracts, as many as can be", 8, Games.closed(), game -> game.about(2));
        edges.answers("the last phase", 6, Games.rich(6), game -> game.about(3));
    }

    /** Contract 0 of this game goes over tracks of company 0, of company 1 and of the bank; company 0 holds it. */
    private static RustRails threeOwners() {
        RustRails game = Checks.gameOf("R4t012t123t231c03305c12092");
        game.buyTrack(0, 0);
        game.buyTrack(1, 1);
        game.setRent(1, 4);
        game.buyTrain(0, 2);
        game.take(0, 0);
        return game;
    }

    private void rentsSoFar() {
        edges.promise(6, "6: rents paid so far (those to the bank, too);");
        RustRails game = threeOwners();
        game.run(0, 0);
        edges.answers("to company 1 and to the bank, none for its own", 12 + 1, game, it -> it.about(6));
        game.endRound();
        edges.answers("upkeep is no rent", 13, game, it -> it.about(6));
        game.buyTrack(0, 2);
        edges.answers("a price is no rent", 13, game, it -> it.about(6));
        game.run(0, 0);
        edges.answers("the bank gets none now", 13 + 12, game, it -> it.about(6));
        game.endRound();
        game.setRent(1, 0);
        game.run(0, 0);
        edges.answers("a rent of 0", 25, game, it -> it.about(6));
    }

    private void paysAndFinesSoFar() {
        edges.promise(6, "7: pays so far; 8: fines so far;");
        RustRails game = Checks.gameOf("R2t011c01015c01995");
        game.buyTrain(0, 1);
        game.buyTrain(0, 1);
        game.take(0, 0);
        game.take(0, 1);
        game.run(0, 0);
        edges.answers("the least pay", 1, game, it -> it.about(7));
        game.run(1, 1);
        edges.answers("the greatest pay", 1 + 99, game, it -> it.about(7));
        game.endRound();
        edges.answers("no fine for what was run", 0, game, it -> it.about(8));
        game.endRound();
        edges.answers("two fines", 10, game, it -> it.about(8));
        game.run(0, 0);
        game.endRound();
        edges.answers("one more", 15, game, it -> it.about(8));
        edges.answers("fines are no pays", 101, game, it -> it.about(7));
    }

    /** The first companies have spent all their coins, and have upkeep to pay. */
    private static RustRails poor(int companies) {
        RustRails game = new RustRails();
        for (int i = 0; i < companies; i++) {
            game.buyTrain(i, 2);
            game.buyTrain(i, 2);
            game.buyTrain(i, 1);
        }
        return game;
    }

    private void bankruptciesSoFar() {
        edges.promise(6, "9: bankruptcies so far;");
        for (int companies = 0; companies <= 4; companies++) {
            RustRails game = poor(companies);
            edges.answers("before the round ends", 0, game, it -> it.about(9));
            game.endRound();
            edges.answers("of " + companies, companies, game, it -> it.about(9));
            game.endRound();
            edges.answers("later", companies, game, it -> it.about(9));
        }
    }

    private void rustSoFar() {
        edges.promise(6, "10: trains that rusted so far (those of bankruptcies do not count)");
        RustRails game = poor(1);
        game.endRound();
        edges.answers("three trains are gone by bankruptcy", 0, game, it -> it.company(0, 2) + it.about(10));
        game.buyTrain(1, 1);
        game.buyTrain(1, 2);
        edges.answers("in phase 2", 0, game, it -> it.about(10));
        game.buyTrain(2, 3);
        edges.answers("one of level 1", 1, game, it -> it.about(10));
        game.buyTrain(3, 4);
        edges.answers("and one of level 2", 2, game, it -> it.about(10));
    }

    // ---- promise 7

    private void tracks() {
        edges.promise(7, "`what`: 0: its first city; 1: its second one; 2: its length; 3: its owner (NONE for the bank)",
                "Throws `IndexOutOfBoundsException` if there is no such track",
                "Throws `IllegalArgumentException` if what is not 0 to 3", "`t`: track", "Returns that number.");
        Edges.Recipe recipe = () -> {
            RustRails game = Checks.gameOf("R9t081t879" + "t123".repeat(14));
            game.buyTrack(0, 0);
            game.buyTrack(3, 15);
            return game;
        };
        int[][] due = {{0, 8, 1, 0}, {8, 7, 9, NONE}, {1, 2, 3, 3}};
        int[] tracks = {0, 1, 15};
        for (int place = 0; place < tracks.length; place++) {
            int t = tracks[place];
            for (int number = 0; number <= 3; number++) {
                int what = number;
                edges.onlyAnswers("track " + t, due[place][what], recipe, game -> game.track(t, what));
            }
            edges.refuses("what -1", Edges.OUT_OF_RANGE, recipe, game -> game.track(t, -1));
            edges.refuses("what 4", Edges.OUT_OF_RANGE, recipe, game -> game.track(t, 4));
        }
        edges.refuses("track 16", Edges.NO_SUCH, recipe, game -> game.track(16, 0));
        edges.refuses("track 16, what 4", Edges.NO_SUCH, recipe, game -> game.track(16, 4));
        edges.refuses("of none", Edges.NO_SUCH, () -> Checks.gameOf("R2"), game -> game.track(0, 0));
        edges.refuses("of none, what -1", Edges.NO_SUCH, () -> Checks.gameOf("R2"), game -> game.track(0, -1));
    }

    // ---- promise 8

    private void companiesAtFirst() {
        edges.terms("COMPANIES AND THE BANK", "There are 4 companies, numbered from 0.",
                "Each has coins, at first 100, a rent for each unit of length of its tracks, 0 to 9, at first 1, "
                + "and at most 4 trains;");
        edges.promise(8, "`what`: 0: its coins; 1: its rent; 2: the number of its trains; 3: of its tracks; "
                + "4: of its contracts; 5: rents that it got so far; 6: how often it was bankrupt",
                "Returns that number.");
        int[] due = {100, 1, 0, 0, 0, 0, 0};
        for (int i = 0; i <= 3; i++) {
            int company = i;
            for (int number = 0; number <= 6; number++) {
                int what = number;
                edges.onlyAnswers("company " + i, due[what], RustRails::new, game -> game.company(company, what));
            }
            edges.refuses("what -1", Edges.OUT_OF_RANGE, RustRails::new, game -> game.company(company, -1));
            edges.refuses("what 7", Edges.OUT_OF_RANGE, RustRails::new, game -> game.company(company, 7));
        }
        edges.refuses("company -1", Edges.NO_SUCH, RustRails::new, game -> game.company(-1, 0));
        edges.refuses("company 4", Edges.NO_SUCH, RustRails::new, game -> game.company(4, 0));
        edges.refuses("company 4, the bank's coins", Edges.NO_SUCH, Games::old, game -> game.company(4, 0));
        edges.refuses("company NONE", Edges.NO_SUCH, Games::old, game -> game.company(NONE, 4));
    }

    private void companiesWithMost() {
        edges.promise(8, "2: the number of its trains; 3: of its tracks; 4: of its contracts;");
        RustRails game = Checks.gameOf("R2" + "t011".repeat(16));
        for (int t = 0; t < 16; t++) {
            edges.answers("tracks", t, game, it -> it.company(2, 3));
            game.buyTrack(2, t);
        }
        edges.answers("all tracks", 16, game, it -> it.company(2, 3));
        for (int k = 0; k < 8; k++) {
            edges.answers("contracts", k, game, it -> it.company(1, 4));
            game.offer(0, 1, 1, 1);
            game.take(1, k);
        }
        edges.answers("all contracts", 8, game, it -> it.company(1, 4));
        for (int j = 0; j < 4; j++) {
            edges.answers("trains", j, game, it -> it.company(3, 2));
            game.buyTrain(3, 1);
        }
        edges.answers("four trains", 4, game, it -> it.company(3, 2));
        edges.same("of the others", numbers(game, 99, it -> it.company(2, 2), it -> it.company(2, 4),
                it -> it.company(1, 2), it -> it.company(1, 3), it -> it.company(3, 3), it -> it.company(3, 4)),
                "0 0 0 0 0 0 ");
    }

    private void rentsThatItGot() {
        edges.promise(8, "5: rents that it got so far;");
        RustRails game = threeOwners();
        game.run(0, 0);
        edges.answers("company 1", 12, game, it -> it.company(1, 5));
        edges.answers("none for its own tracks", 0, game, it -> it.company(0, 5));
        edges.answers("the bank's go to no company", 0, game, it -> it.company(2, 5) + it.company(3, 5));
        game.endRound();
        game.run(0, 0);
        edges.answers("company 1 again", 24, game, it -> it.company(1, 5));
    }

    private void howOftenBankrupt() {
        edges.promise(8, "6: how often it was bankrupt");
        RustRails game = Checks.gameOf("R2c01019");
        game.buyTrain(2, 2);
        game.buyTrain(2, 2);
        game.buyTrain(2, 1);
        for (int times = 0; times < 4; times++) {
            edges.answers("before", times, game, it -> it.company(2, 6));
            game.take(2, 0);
            edges.answers("endRound", 1, game, RustRails::endRound);
            edges.answers("it has no contract", 0, game, it -> it.company(2, 4));
        }
        edges.answers("four times", 4, game, it -> it.company(2, 6));
        edges.answers("the others never", 0, game, it -> it.company(0, 6) + it.company(1, 6) + it.company(3, 6));
        edges.answers("all", 4, game, it -> it.about(9));
    }

    // ---- promises 9 and 10

    private void trains() {
        edges.promise(9, "`what`: 0: its level; 1: 1 if it ran in this round, 0 if not", "`j`: train of this company",
                "Throws `IndexOutOfBoundsException` if there is no such company or train",
                "Throws `IllegalArgumentException` if what is not 0 or 1", "Returns that number.");
        Edges.Recipe recipe = () -> {
            RustRails game = Checks.gameOf("R2t011c01995");
            game.buyTrain(1, 1);
            for (int j = 0; j < 4; j++) {
                game.buyTrain(2, 1);
            }
            game.take(2, 0);
            game.run(0, 3);
            return game;
        };
        for (int j = 0; j <= 3; j++) {
            int train = j;
            edges.onlyAnswers("level of train " + j, 1, recipe, game -> game.train(2, train, 0));
            edges.onlyAnswers("ran train " + j, j == 3 ? 1 : 0, recipe, game -> game.train(2, train, 1));
            edges.refuses("what -1", Edges.OUT_OF_RANGE, recipe, game -> game.train(2, train, -1));
            edges.refuses("what 2", Edges.OUT_OF_RANGE, recipe, game -> game.train(2, train, 2));
        }
        edges.onlyAnswers("the only train", 1, recipe, game -> game.train(1, 0, 0));
        for (int j : new int[] {-1, 4, 5}) {
            edges.refuses("train " + j, Edges.NO_SUCH, recipe, game -> game.train(2, j, 0));
            edges.refuses("train " + j + ", what 2", Edges.NO_SUCH, recipe, game -> game.train(2, j, 2));
        }
        for (int j : new int[] {-1, 1, 4}) {
            edges.refuses("of one, train " + j, Edges.NO_SUCH, recipe, game -> game.train(1, j, 0));
        }
        for (int j : new int[] {-4, -1, 0, 4, 8}) {
            edges.refuses("of none, train " + j, Edges.NO_SUCH, recipe, game -> game.train(0, j, 0));
            edges.refuses("of none, train " + j, Edges.NO_SUCH, recipe, game -> game.train(3, j, 1));
        }
        edges.refuses("company 4", Edges.NO_SUCH, recipe, game -> game.train(4, 0, 2));
        edges.refuses("company -1", Edges.NO_SUCH, recipe, game -> game.train(-1, 0, -1));
    }

    private void contracts() {
        edges.promise(10, "`k`: contract", "`what`: 0: the city from which, 1: to which; 2: the pay; 3: the rounds that are "
                + "left; 4: the holder (NONE if there is none); 5: 1 if it was run in this round, 0 if not",
                "Throws `IndexOutOfBoundsException` if there is no such contract",
                "Throws `IllegalArgumentException` if what is not 0 to 5", "Returns that number.");
        Edges.Recipe recipe = () -> {
            RustRails game = Checks.gameOf("R9t811c81999" + "c01011".repeat(6) + "c08502");
            game.buyTrain(3, 1);
            game.take(3, 0);
            game.take(0, 7);
            game.run(0, 0);
            return game;
        };
        int[][] due = {{8, 1, 99, 9, 3, 1}, {0, 1, 1, 1, NONE, 0}, {0, 8, 50, 2, 0, 0}};
        int[] contracts = {0, 6, 7};
        for (int place = 0; place < contracts.length; place++) {
            int k = contracts[place];
            for (int number = 0; number <= 5; number++) {
                int what = number;
                edges.onlyAnswers("contract " + k, due[place][what], recipe, game -> game.contract(k, what));
            }
            edges.refuses("what -1", Edges.OUT_OF_RANGE, recipe, game -> game.contract(k, -1));
            edges.refuses("what 6", Edges.OUT_OF_RANGE, recipe, game -> game.contract(k, 6));
        }
        edges.refuses("contract -1", Edges.NO_SUCH, recipe, game -> game.contract(-1, 0));
        edges.refuses("contract 8", Edges.NO_SUCH, recipe, game -> game.contract(8, 0));
        edges.refuses("contract 8, what 6", Edges.NO_SUCH, recipe, game -> game.contract(8, 6));
        edges.refuses("of none", Edges.NO_SUCH, RustRails::new, game -> game.contract(0, 0));
        edges.refuses("of none, what -1", Edges.NO_SUCH, RustRails::new, game -> game.contract(0, -1));
    }

    // ---- the bank and the coins

    private void theBank() {
        edges.terms("COMPANIES AND THE BANK", "the bank has coins, at first -400 (it can always pay), and its rent is 1.");
        RustRails game = Checks.gameOf("R2t019c01999");
        edges.answers("at first", -400, game, it -> it.about(5));
        for (int i = 0; i <= 3; i++) {
            game.setRent(i, 0);
        }
        edges.answers("its rent for a length of 9", 9, game, it -> it.way(0, 0, 1, 9, 0));
        game.buyTrain(0, 2);
        game.buyTrain(0, 3);
        game.take(0, 0);
        for (int run = 1; run <= 3; run++) {
            game.run(0, 1);
            edges.answers("it pays with coins below 0", -400 + 100 + 5 * (run - 1) - 90 * run, game, it -> it.about(5));
            game.endRound();
        }
    }

    private void allCoins() {
        edges.terms("COMPANIES AND THE BANK", "To pay means that the coins of the one who pays decrease, and those of the "
                + "one who is paid increase by the same amount; so all coins always add up to 0.");
        for (Edges.Recipe recipe : new Edges.Recipe[] {RustRails::new, Games::young, Games::old, Games::closed}) {
            edges.answers("all coins", 0, recipe.game(), Games::allCoins);
            RustRails game = recipe.game();
            for (int round = 0; round < 60; round++) {
                game.endRound();
                edges.answers("all coins", 0, game, Games::allCoins);
            }
        }
        for (int phase = 1; phase <= 6; phase++) {
            edges.answers("all coins", 0, Games.rich(phase), Games::allCoins);
            edges.answers("all coins", 0, Games.counted(1, phase), Games::allCoins);
        }
    }

    /** Company 0 has 0 coins and pays a rent of 81. */
    private static RustRails belowZero() {
        RustRails game = Checks.gameOf("R3t019t121c01015c12999");
        game.buyTrack(1, 0);
        game.setRent(1, 9);
        game.buyTrain(0, 2);
        game.buyTrain(0, 3);
        game.take(0, 0);
        game.take(0, 1);
        game.run(0, 1);
        return game;
    }

    private void coinsBelowZero() {
        edges.terms("COMPANIES AND THE BANK", "Coins of a company can be less than 0 until the end of the round.");
        RustRails game = belowZero();
        edges.answers("0 - 81 + 1", -80, game, it -> it.company(0, 0));
        edges.refuses("it can't buy a track", Edges.NOT_NOW, EdgesOfNumbersTest::belowZero, it -> it.buyTrack(0, 1));
        edges.refuses("it can't buy a train", Edges.NOT_NOW, EdgesOfNumbersTest::belowZero, it -> it.buyTrain(0, 2));
        edges.answers("it can run", 1, game, it -> it.run(1, 0));
        edges.answers("it has coins again", -80 - 1 + 99, game, it -> it.company(0, 0));
        edges.answers("in time", 0, game, RustRails::endRound);
        edges.answers("less upkeep", 18 - 5, game, it -> it.company(0, 0));
        edges.answers("otherwise it is bankrupt", 1, belowZero(), RustRails::endRound);
    }
}
