/** The edges of promises 14 to 16, and of what the document says of contracts and of runs. */
final class EdgesOfContractsTest {
    private static final int NONE = Edges.NONE;

    private final Edges edges;

    private EdgesOfContractsTest(Edges edges) {
        this.edges = edges;
    }

    public static void main(String[] args) {
        Edges.test(EdgesOfContractsTest::all);
    }

    static void all(Edges edges) {
        EdgesOfContractsTest test = new EdgesOfContractsTest(edges);
        test.offers();
        test.eightContracts();
        test.firstExceptionOfOffers();
        test.taking();
        test.heldContracts();
        test.howManyItHolds();
        test.trainsOfTheHolder();
        test.runsWithoutHolder();
        test.runsThatAreRefused();
        test.costsOfRuns();
        test.paymentsOfRuns();
        test.runsWithoutCoins();
        test.oncePerRound();
    }

    private static String contract(RustRails game, int k) {
        StringBuilder numbers = new StringBuilder();
        for (int what = 0; what <= 5; what++) {
            numbers.append(game.contract(k, what)).append(what < 5 ? " " : "");
        }
        return numbers.toString();
    }

    // ---- promise 14

    private void offers() {
        edges.promise(14, "Offers a contract behind all others.", "Returns its number.", "`a`: city", "`b`: another city",
                "`pay`: 1 to 99", "`rounds`: 1 to 9");
        RustRails game = Checks.gameOf("R9");
        edges.answers("the least", 0, game, it -> it.offer(0, 1, 1, 1));
        edges.answers("the greatest", 1, game, it -> it.offer(8, 7, 99, 9));
        edges.answers("between", 2, game, it -> it.offer(0, 8, 98, 2));
        edges.answers("between", 3, game, it -> it.offer(8, 0, 2, 8));
        edges.same("the first", contract(game, 0), "0 1 1 1 -9 0");
        edges.same("the second", contract(game, 1), "8 7 99 9 -9 0");
        edges.same("the third", contract(game, 2), "0 8 98 2 -9 0");
        edges.same("the fourth", contract(game, 3), "8 0 2 8 -9 0");
        edges.promise(14, "Throws `IllegalArgumentException` if a and b are the same, or pay or rounds is out of range");
        for (Edges.Recipe recipe : new Edges.Recipe[] {RustRails::new, Games::old}) {
            edges.refuses("the same", Edges.OUT_OF_RANGE, recipe, it -> it.offer(0, 0, 50, 5));
            edges.refuses("the same, the last city", Edges.OUT_OF_RANGE, recipe, it -> it.offer(2, 2, 50, 5));
            edges.refuses("pay 0", Edges.OUT_OF_RANGE, recipe, it -> it.offer(0, 1, 0, 5));
            edges.refuses("pay 100", Edges.OUT_OF_RANGE, recipe, it -> it.offer(0, 1, 100, 5));
            edges.refuses("rounds 0", Edges.OUT_OF_RANGE, recipe, it -> it.offer(0, 1, 50, 0));
            edges.refuses("rounds 10", Edges.OUT_OF_RANGE, recipe, it -> it.offer(0, 1, 50, 10));
        }
    }

    /** A game with contracts of pays from 10 on; those of the mask are held by company 0, and end in this round. */
    private static RustRails offered(int contracts, int mask) {
        RustRails game = new RustRails();
        for (int k = 0; k < contracts; k++) {
            game.offer(0, 1, 10 + k, (mask >> k & 1) == 1 ? 1 : 2);
            if ((mask >> k & 1) == 1) {
                game.take(0, k);
            }
        }
        return game;
    }

    private void eightContracts() {
        edges.promise(14, "Throws `IllegalStateException` if there are 8 contracts");
        edges.terms("CONTRACTS", "There are at most 8 contracts, numbered from 0;");
        edges.answers("the first", 0, offered(0, 0), game -> game.offer(0, 1, 1, 1));
        edges.answers("the seventh", 6, offered(6, 0), game -> game.offer(0, 1, 1, 1));
        edges.answers("the eighth", 7, offered(7, 0), game -> game.offer(0, 1, 1, 1));
        edges.refuses("a ninth", Edges.NOT_NOW, () -> offered(8, 0), game -> game.offer(0, 1, 1, 1));
        edges.refuses("a ninth when all are held", Edges.NOT_NOW, Games::closed, game -> game.offer(0, 1, 1, 1));
        edges.refuses("a ninth, of a text with 8", Edges.NOT_NOW, () -> Checks.gameOf("R2" + "c01011".repeat(8)),
                game -> game.offer(1, 0, 99, 9));
        RustRails game = offered(8, 1 << 3);
        game.endRound();
        edges.answers("one is gone", 7, game, it -> it.about(2));
        edges.answers("the number of the last one is free", 7, game, it -> it.offer(1, 2, 77, 7));
        edges.same("behind all others", contract(game, 7), "1 2 77 7 -9 0");
        edges.same("the one before it", contract(game, 6), "0 1 17 2 -9 0");
        edges.answers("there are 8 again", 8, game, it -> it.about(2));
    }

    private void firstExceptionOfOffers() {
        edges.promise(14, "Throws `IndexOutOfBoundsException` if there is no such city");
        Edges.Recipe full = Games::closed;
        edges.refuses("no city, the same, no pay, no rounds, full", Edges.NO_SUCH, full, game -> game.offer(4, 4, 0, 0));
        edges.refuses("no city from, full", Edges.NO_SUCH, full, game -> game.offer(4, 0, 1, 1));
        edges.refuses("no city to, full", Edges.NO_SUCH, full, game -> game.offer(0, 4, 1, 1));
        edges.refuses("no city to, no pay", Edges.NO_SUCH, full, game -> game.offer(0, -1, 100, 1));
        edges.refuses("no city to, no rounds", Edges.NO_SUCH, full, game -> game.offer(0, -1, 1, 10));
        edges.refuses("the same, full", Edges.OUT_OF_RANGE, full, game -> game.offer(1, 1, 1, 1));
        edges.refuses("no pay, full", Edges.OUT_OF_RANGE, full, game -> game.offer(0, 1, 0, 1));
        edges.refuses("no rounds, full", Edges.OUT_OF_RANGE, full, game -> game.offer(0, 1, 1, 0));
        edges.refuses("full", Edges.NOT_NOW, full, game -> game.offer(0, 1, 1, 1));
    }

    // ---- promise 15

    private void taking() {
        edges.promise(15, "A company takes a contract without a holder.", "`k`: contract",
                "Throws `IndexOutOfBoundsException` if there is no such company or contract");
        for (int contracts : new int[] {0, 1, 7, 8}) {
            Edges.Recipe recipe = () -> offered(contracts, 0);
            for (int k : new int[] {0, contracts - 1}) {
                if (k >= 0 && k < contracts) {
                    RustRails game = recipe.game();
                    edges.answers("contract " + k + " of " + contracts, 1, game, it -> it.take(3, k));
                    edges.answers("its holder", 3, game, it -> it.contract(k, 4));
                    edges.answers("held by company 0", 1, recipe.game(), it -> it.take(0, k));
                    edges.refuses("company 4", Edges.NO_SUCH, recipe, it -> it.take(4, k));
                    edges.refuses("company -1", Edges.NO_SUCH, recipe, it -> it.take(-1, k));
                    edges.refuses("company NONE", Edges.NO_SUCH, recipe, it -> it.take(NONE, k));
                }
            }
            edges.refuses("behind the last of " + contracts, Edges.NO_SUCH, recipe, it -> it.take(0, contracts));
            edges.refuses("before the first of " + contracts, Edges.NO_SUCH, recipe, it -> it.take(0, -1));
        }
    }

    private void heldContracts() {
        edges.promise(15, "Throws `IllegalStateException` if it has a holder");
        for (int i = 0; i <= 3; i++) {
            int holder = i;
            Edges.Recipe recipe = () -> {
                RustRails game = offered(2, 0);
                game.take(holder, 1);
                return game;
            };
            for (int other = 0; other <= 3; other++) {
                int taker = other;
                edges.refuses(taker + " from " + holder, Edges.NOT_NOW, recipe, game -> game.take(taker, 1));
                edges.answers("the other one", taker == holder ? 2 : 1, recipe.game(), game -> game.take(taker, 0));
            }
            edges.refuses("no such company", Edges.NO_SUCH, recipe, game -> game.take(4, 1));
            edges.refuses("no such contract", Edges.NO_SUCH, recipe, game -> game.take(holder, 2));
        }
        RustRails game = offered(1, 0);
        game.buyTrain(0, 2);
        game.buyTrain(0, 3);
        game.take(0, 0);
        game.endRound();
        edges.answers("the holder was bankrupt", NONE, game, it -> it.contract(0, 4));
        edges.answers("another takes it", 1, game, it -> it.take(1, 0));
    }

    private void howManyItHolds() {
        edges.promise(15, "Returns how many contracts the company holds then.");
        RustRails game = offered(8, 0);
        for (int k = 0; k < 8; k++) {
            int contract = 7 - k;
            int due = k + 1;
            edges.answers("number " + due, due, game, it -> it.take(1, contract));
        }
        RustRails two = offered(8, 0);
        for (int k = 0; k < 4; k++) {
            int due = k + 1;
            int contract = 2 * k;
            edges.answers("of one company", due, two, it -> it.take(0, contract));
            edges.answers("of another", due, two, it -> it.take(3, contract + 1));
        }
    }

    // ---- promise 16

    /** Contract 0 of company 0 with one train, contract 1 of company 1 without trains, contract 2 of nobody. */
    private static RustRails holders() {
        RustRails game = Checks.gameOf("R3t011c01505c01505c01505");
        game.buyTrain(0, 1);
        game.buyTrain(2, 1);
        game.buyTrain(2, 1);
        game.take(0, 0);
        game.take(1, 1);
        return game;
    }

    private void trainsOfTheHolder() {
        String noTrain = "Throws `IndexOutOfBoundsException` if there is no such contract, or it has a holder that has no "
                + "such train";
        edges.promise(16, noTrain, "`k`: contract", "`j`: train of its holder");
        edges.answers("the only train", 1, holders(), game -> game.run(0, 0));
        for (int j : new int[] {-1, 1, 2, 4}) {
            edges.refuses("train " + j + " of one", Edges.NO_SUCH, EdgesOfContractsTest::holders, game -> game.run(0, j));
        }
        for (int j : new int[] {-4, -1, 0, 1, 4}) {
            edges.refuses("train " + j + " of none", Edges.NO_SUCH, EdgesOfContractsTest::holders, game -> game.run(1, j));
        }
        for (int k : new int[] {-1, 3, 8}) {
            edges.refuses("contract " + k, Edges.NO_SUCH, EdgesOfContractsTest::holders, game -> game.run(k, 0));
        }
        edges.answers("the last train of four", 0, Games.closed(), game -> game.run(7, 3));
        edges.refuses("behind the last of four", Edges.NO_SUCH, Games::closed, game -> game.run(7, 4));
        edges.refuses("behind the last contract", Edges.NO_SUCH, Games::closed, game -> game.run(8, 0));
        edges.refuses("no such train, before that it was run", Edges.NO_SUCH, Games::closed, game -> game.run(0, 4));
        edges.refuses("no such train, before that it was run", Edges.NO_SUCH, Games::closed, game -> game.run(0, -1));
    }

    private void runsWithoutHolder() {
        edges.promise(16, "Throws `IllegalStateException` if whyNot(k, j) is not 0");
        for (int j : new int[] {Integer.MIN_VALUE, NONE, -1, 0, 1, 4, Integer.MAX_VALUE}) {
            edges.refuses("train " + j + " for nobody", Edges.NOT_NOW, EdgesOfContractsTest::holders, game -> game.run(2, j));
        }
    }

    /** Contracts: 0 was run with train 0, 1 is as far as level 1 goes, 2 is farther by 1, and to 3 there is no way. */
    private static RustRails reasons() {
        RustRails game = Checks.gameOf("R5t011t024t035c01505c02505c03505c04505c02505");
        game.buyTrain(3, 1);
        game.buyTrain(3, 1);
        for (int k = 0; k < 4; k++) {
            game.take(3, k);
        }
        game.run(0, 0);
        return game;
    }

    private void runsThatAreRefused() {
        edges.promise(16, "Throws `IllegalStateException` if whyNot(k, j) is not 0");
        Edges.Recipe recipe = EdgesOfContractsTest::reasons;
        int[][] tries = {{4, 0, 1}, {0, 1, 2}, {0, 0, 2}, {1, 0, 3}, {2, 0, 3}, {2, 1, 4}, {3, 1, 4}};
        for (int[] attempt : tries) {
            int k = attempt[0];
            int j = attempt[1];
            edges.onlyAnswers("whyNot(" + k + ", " + j + ")", attempt[2], recipe, game -> game.whyNot(k, j));
            edges.refuses("run(" + k + ", " + j + ")", Edges.NOT_NOW, recipe, game -> game.run(k, j));
        }
        edges.onlyAnswers("whyNot(1, 1)", 0, recipe, game -> game.whyNot(1, 1));
        edges.answers("run(1, 1)", 4, recipe.game(), game -> game.run(1, 1));
    }

    private void costsOfRuns() {
        edges.promise(16, "Returns the cost of the way.");
        edges.terms("WAYS AND RUNS", "For a company, a way costs the sum of length * rent over its tracks: the rent of the "
                + "owner, 0 for its own tracks.");
        for (int rent : new int[] {0, 1, 8, 9}) {
            Edges.Recipe recipe = () -> {
                RustRails game = Games.reaching(6);
                game.setRent(0, 9);
                for (int t = 0; t < 3; t++) {
                    game.buyTrack(t == 2 ? 3 : 1, t);
                }
                game.setRent(1, rent);
                game.setRent(3, rent);
                return game;
            };
            edges.answers("a length of 24 for a rent of " + rent, 24 * rent, recipe.game(), game -> game.run(0, 1));
        }
        RustRails free = Checks.gameOf("R2t014c01505");
        free.buyTrack(0, 0);
        free.setRent(0, 9);
        free.buyTrain(0, 1);
        free.take(0, 0);
        edges.answers("its own track", 0, free, game -> game.run(0, 0));
        edges.answers("its coins", 100 - 12 - 20 + 50, free, game -> game.company(0, 0));
    }

    private void paymentsOfRuns() {
        edges.terms("WAYS AND RUNS", "the company pays the cost of each track of its way (with the reach of the train) to the "
                + "owner, in the order of the way, and the bank pays the contract's pay to the company.");
        RustRails game = Checks.gameOf("R5t011t122t231t343c04995");
        game.buyTrack(1, 0);
        game.buyTrack(2, 1);
        game.buyTrack(1, 2);
        game.setRent(1, 3);
        game.setRent(2, 5);
        game.buyTrain(0, 2);
        game.take(0, 0);
        int bank = game.about(5);
        edges.answers("3 + 10 + 3 + 3", 19, game, it -> it.run(0, 0));
        edges.answers("it pays the way, and gets the pay", 60 - 19 + 99, game, it -> it.company(0, 0));
        edges.answers("company 1, for two tracks", 97 - 3 + 6, game, it -> it.company(1, 0));
        edges.answers("company 2", 94 + 10, game, it -> it.company(2, 0));
        edges.answers("the bank, for one track", bank + 3 - 99, game, it -> it.about(5));
        edges.same("rents that they got", game.company(0, 5) + " " + game.company(1, 5) + " " + game.company(2, 5), "0 6 10");
        edges.same("rents and pays", game.about(6) + " " + game.about(7), "19 99");
        edges.answers("all coins", 0, game, Games::allCoins);
        RustRails near = Checks.gameOf("R3t019t024t214c01999");
        near.buyTrack(1, 1);
        near.buyTrack(1, 2);
        near.setRent(1, 0);
        near.buyTrain(0, 2);
        near.take(0, 0);
        edges.answers("by a way within the reach", 0, near, it -> it.run(0, 0));
    }

    private void runsWithoutCoins() {
        edges.promise(16, "The holder of a contract makes a run for it.");
        Edges.Recipe recipe = () -> {
            RustRails game = Checks.gameOf("R2t018c01015");
            game.buyTrack(1, 0);
            game.setRent(1, 9);
            game.buyTrain(0, 2);
            game.buyTrain(0, 2);
            game.buyTrain(0, 1);
            game.take(0, 0);
            return game;
        };
        edges.answers("it has no coins", 0, recipe.game(), game -> game.company(0, 0));
        RustRails game = recipe.game();
        edges.answers("a run for 72 coins", 72, game, it -> it.run(0, 0));
        edges.answers("it has less than none", -71, game, it -> it.company(0, 0));
        game.offer(0, 1, 99, 1);
        game.take(0, 1);
        edges.answers("a run with coins below 0", 72, game, it -> it.run(1, 1));
        edges.answers("and then", -71 - 72 + 99, game, it -> it.company(0, 0));
    }

    private void oncePerRound() {
        edges.terms("WAYS AND RUNS", "In a round, each train runs at most once, and each contract is run at most once.");
        Edges.Recipe recipe = () -> {
            RustRails game = Checks.gameOf("R2t011c01505c10505c01505");
            game.buyTrain(0, 1);
            game.buyTrain(0, 1);
            for (int k = 0; k < 3; k++) {
                game.take(0, k);
            }
            game.run(0, 0);
            return game;
        };
        edges.refuses("the same again", Edges.NOT_NOW, recipe, game -> game.run(0, 0));
        edges.refuses("the contract with the other train", Edges.NOT_NOW, recipe, game -> game.run(0, 1));
        edges.refuses("the train for another contract", Edges.NOT_NOW, recipe, game -> game.run(1, 0));
        edges.answers("both others", 1, recipe.game(), game -> game.run(1, 1));
        RustRails game = recipe.game();
        game.run(1, 1);
        edges.answers("no train is left", 3, game, it -> it.whyNot(2, 0));
        edges.answers("no train is left", 3, game, it -> it.whyNot(2, 1));
        game.endRound();
        edges.answers("in the next round", 1, game, it -> it.run(0, 0));
        edges.answers("in the next round", 1, game, it -> it.run(2, 1));
        edges.answers("once", 2, game, it -> it.whyNot(0, 1));
    }
}
