/** The edges of promise 17, and of what the document says of the end of a round. */
final class EdgesOfRoundsTest {
    private static final int NONE = Edges.NONE;
    private static final String END = "THE END OF A ROUND";

    private final Edges edges;

    private EdgesOfRoundsTest(Edges edges) {
        this.edges = edges;
    }

    public static void main(String[] args) {
        Edges.test(EdgesOfRoundsTest::all);
    }

    static void all(Edges edges) {
        EdgesOfRoundsTest test = new EdgesOfRoundsTest(edges);
        test.nothingToEnd();
        test.fines();
        test.roundsOfContracts();
        test.contractsThatAreGone();
        test.upkeep();
        test.lastCoins();
        test.fineThatBankrupts();
        test.missingCoins();
        test.whatIsLost();
        test.goneBeforeBankrupt();
        test.goingOn();
        test.howMany();
        test.nextRound();
        test.fiveHundredAndTwelveCalls();
    }

    private void nothingToEnd() {
        edges.promise(17, "Returns how many companies are bankrupt by this.");
        edges.answers("a new object", 0, new RustRails(), RustRails::endRound);
        edges.answers("no tracks", 0, Checks.gameOf("R2"), RustRails::endRound);
        RustRails game = new RustRails();
        game.endRound();
        edges.same("only the round is another one", Checks.picture(game),
                Checks.picture(new RustRails()).replace("3 2 0 1 0 -400", "3 2 0 1 1 -400"));
    }

    // ---- 1. contracts

    private void fines() {
        edges.terms(END, "1. For each contract with a holder, ascending: if it was not run in this round, the holder pays a "
                + "fine of 5 to the bank;");
        for (int held = 0; held <= 3; held++) {
            for (int run = 0; run <= held; run++) {
                RustRails game = Checks.gameOf("R2t011" + "c01019".repeat(4));
                for (int k = 0; k < 3; k++) {
                    game.buyTrain(0, 1);
                }
                for (int k = 0; k < held; k++) {
                    game.take(0, k);
                }
                for (int k = 0; k < run; k++) {
                    game.run(k, k);
                }
                int fine = 5 * (held - run);
                String what = run + " of " + held + " run";
                edges.answers(what, 0, game, RustRails::endRound);
                edges.answers(what + ": fines", fine, game, it -> it.about(8));
                edges.answers(what + ": coins", 40 - 3 - fine, game, it -> it.company(0, 0));
                edges.answers(what + ": the bank's coins", -340 + 3 + fine, game, it -> it.about(5));
                edges.answers(what + ": the others", 300, game,
                        it -> it.company(1, 0) + it.company(2, 0) + it.company(3, 0));
            }
        }
        RustRails game = Checks.gameOf("R2t011c01019c01019");
        game.take(3, 0);
        game.take(2, 1);
        game.endRound();
        edges.same("each holder pays its own", game.company(3, 0) + " " + game.company(2, 0) + " " + game.company(1, 0),
                "95 95 100");
    }

    private void roundsOfContracts() {
        edges.terms(END, "its rounds (only those of contracts with a holder) decrease by 1; if they are 0 then, it is gone.");
        for (int rounds = 1; rounds <= 9; rounds++) {
            RustRails game = Checks.gameOf("R2t011c01509c0160" + rounds + "c0170" + rounds + "c01809");
            game.buyTrain(1, 1);
            game.take(1, 1);
            if (rounds % 2 == 0) {
                game.run(1, 0);
            }
            for (int left = rounds - 1; left > 0; left--) {
                game.endRound();
                edges.answers("rounds that are left", left, game, it -> it.contract(1, 3));
                edges.answers("its pay", 60, game, it -> it.contract(1, 2));
            }
            edges.answers("contracts", 4, game, it -> it.about(2));
            game.endRound();
            edges.answers("it is gone", 3, game, it -> it.about(2));
            edges.answers("the holder holds none", 0, game, it -> it.company(1, 4));
            edges.answers("the next one has its number", 70, game, it -> it.contract(1, 2));
            edges.answers("without a holder its rounds stay", rounds, game, it -> it.contract(1, 3));
            edges.answers("those of the last one, too", 9, game, it -> it.contract(2, 3));
            edges.answers("the last one's number", 80, game, it -> it.contract(2, 2));
        }
        RustRails game = Checks.gameOf("R2t011c01501");
        game.buyTrain(0, 1);
        game.take(0, 0);
        game.run(0, 0);
        game.endRound();
        edges.answers("one that was run is gone, too", 0, game, it -> it.about(2));
        edges.answers("without a fine", 0, game, it -> it.about(8));
    }

    /** Of 8 contracts just those of the mask end: all sets of them. */
    private void contractsThatAreGone() {
        edges.terms("CONTRACTS", "A contract whose rounds are over is gone, and the numbers of later ones decrease by 1.");
        for (int mask = 0; mask < 256; mask++) {
            RustRails game = Checks.gameOf("R9");
            StringBuilder due = new StringBuilder();
            for (int k = 0; k < 8; k++) {
                boolean ends = (mask >> k & 1) == 1;
                game.offer(k, k + 1, 10 + k, ends ? 1 : 2 + k);
                game.take(k % 4, k);
                due.append(ends ? "" : k + " " + (k + 1) + " " + (10 + k) + " " + (1 + k) + " " + k % 4 + " 0 | ");
            }
            game.endRound();
            StringBuilder left = new StringBuilder();
            for (int k = 0; k < game.about(2); k++) {
                for (int what = 0; what <= 5; what++) {
                    left.append(game.contract(k, what)).append(" ");
                }
                left.append("| ");
            }
            edges.same("without those of " + Integer.toBinaryString(mask), left.toString(), due.toString());
            int count = 8 - Integer.bitCount(mask);
            edges.same("a number behind the last", Edges.outcome(game, it -> it.contract(count, 0)), Edges.NO_SUCH);
        }
    }

    // ---- 2. upkeep

    private void upkeep() {
        edges.terms(END, "2. Each company, ascending, pays upkeep to the bank: 1 for each of its tracks and the level for each "
                + "of its trains.");
        for (int tracks : new int[] {0, 1, 2, 16}) {
            RustRails game = Checks.gameOf("R2" + "t011".repeat(16));
            for (int t = 0; t < tracks; t++) {
                game.buyTrack(3, t);
            }
            game.endRound();
            edges.answers("for " + tracks + " tracks", 100 - 4 * tracks, game, it -> it.company(3, 0));
        }
        for (int length : new int[] {1, 9}) {
            RustRails game = Checks.gameOf("R2t01" + length);
            game.buyTrack(0, 0);
            game.endRound();
            edges.answers("whatever its length", 100 - 3 * length - 1, game, it -> it.company(0, 0));
        }
        for (int phase = 1; phase <= 6; phase++) {
            for (int level = Math.max(1, phase - 1); level <= phase; level++) {
                RustRails game = Games.counted(133, phase);
                game.buyTrain(1, level);
                int before = game.company(1, 0);
                int bank = game.about(5);
                int others = game.company(0, 0) + game.company(2, 0) + game.company(3, 0);
                game.endRound();
                int paid = others - game.company(0, 0) - game.company(2, 0) - game.company(3, 0);
                edges.answers("for a track and level " + level, before - 1 - level, game, it -> it.company(1, 0));
                edges.answers("the bank gets it", bank + 1 + level + paid, game, it -> it.about(5));
            }
        }
        RustRails game = Games.rich(2);
        game.buyTrain(2, 1);
        game.buyTrain(2, 2);
        int before = game.company(2, 0);
        game.endRound();
        edges.answers("for four trains, and two fines", before - 1 - 1 - 1 - 2 - 10, game, it -> it.company(2, 0));
    }

    // ---- 3. bankruptcies

    /** Company 1 has these coins and five tracks, for which it pays 5. */
    private static RustRails fiveTracks(int coins) {
        RustRails game = Games.counted(coins, 1);
        for (int k = 0; k < 4; k++) {
            game.offer(0, 1, 1, 1);
        }
        return game;
    }

    private void lastCoins() {
        edges.terms(END, "3. Each company, ascending, whose coins are less than 0 is bankrupt:");
        edges.promise(17, "Returns how many companies are bankrupt by this.");
        for (int coins = 1; coins <= 9; coins++) {
            int left = coins - 5;
            int bankrupt = left < 0 ? 1 : 0;
            String what = left + " coins are left";
            RustRails game = fiveTracks(coins);
            edges.answers("tracks", 5, game, it -> it.company(1, 3));
            edges.answers(what, bankrupt, game, RustRails::endRound);
            edges.answers(what + ": coins", Math.max(0, left), game, it -> it.company(1, 0));
            edges.answers(what + ": how often bankrupt", bankrupt, game, it -> it.company(1, 6));
            edges.answers(what + ": tracks", 5 - 5 * bankrupt, game, it -> it.company(1, 3));
            edges.answers(what + ": all coins", 0, game, Games::allCoins);
        }
    }

    private void fineThatBankrupts() {
        edges.terms(END, "1. For each contract with a holder, ascending: if it was not run in this round, the holder pays a "
                + "fine of 5 to the bank;", "3. Each company, ascending, whose coins are less than 0 is bankrupt:");
        for (int coins = 9; coins <= 11; coins++) {
            RustRails game = fiveTracks(coins);
            game.take(1, 4);
            edges.answers(coins + " coins, 5 for a fine and 5 for tracks", coins < 10 ? 1 : 0, game, RustRails::endRound);
            edges.answers("coins", Math.max(0, coins - 10), game, it -> it.company(1, 0));
        }
    }

    /** Company 0 has 0 coins; a run takes length times rent of company 1 from it, and gives it 1. */
    private static RustRails inDebt(int length, int rent) {
        RustRails game = Checks.gameOf("R2t01" + length + "c01015");
        game.buyTrack(1, 0);
        game.setRent(1, rent);
        game.buyTrain(0, 2);
        game.buyTrain(0, 3);
        game.take(0, 0);
        game.run(0, 1);
        return game;
    }

    private void missingCoins() {
        edges.terms(END, "the bank pays what is missing, so that it has 0 coins (this counts neither as pay nor as rent);");
        for (int rent = 0; rent <= 9; rent++) {
            for (int length = 1; length <= 9; length++) {
                RustRails game = inDebt(length, rent);
                int cost = length * rent;
                int missing = cost - 1 + 5;
                String what = "missing are " + missing;
                int bank = game.about(5);
                edges.answers(what, 1, game, RustRails::endRound);
                edges.answers(what + ": coins", 0, game, it -> it.company(0, 0));
                edges.answers(what + ": the bank, with upkeep 5 and 1", bank + 5 + 1 - missing, game, it -> it.about(5));
                edges.answers(what + ": rents", cost, game, it -> it.about(6));
                edges.answers(what + ": pays", 1, game, it -> it.about(7));
                edges.answers(what + ": fines", 0, game, it -> it.about(8));
                edges.answers(what + ": its rents", 0, game, it -> it.company(0, 5));
                edges.answers(what + ": all coins", 0, game, Games::allCoins);
            }
        }
    }

    private void whatIsLost() {
        edges.terms(END, "its trains are gone, its tracks belong to the bank, and its contracts have no holder.");
        RustRails game = Checks.gameOf("R2t018t018t018t011t011c01019c01029c01039");
        for (int t = 0; t < 3; t++) {
            game.buyTrack(2, t);
        }
        game.buyTrack(1, 3);
        game.buyTrack(3, 4);
        game.buyTrain(2, 1);
        game.buyTrain(1, 1);
        game.buyTrain(3, 1);
        game.take(1, 0);
        game.take(2, 1);
        game.take(3, 2);
        edges.answers("8 coins, a fine of 5, upkeep 4", 1, game, RustRails::endRound);
        edges.same("all that it had is gone, and nothing of the others", Checks.picture(game),
                "2 5 3 1 1 -" + (2 * 70 + 100) + " 0 0 15 1 0 | 0,1,8,-9 0,1,8,-9 0,1,8,-9 0,1,1,1 0,1,1,3 "
                + "| 100 1 0 0 0 0 0 | 70 1 1 1 1 0 0 1 | 0 1 0 0 0 0 1 | 70 1 1 1 1 0 0 1 "
                + "| 0,1,1,8,1,0 0,1,2,8,-9,0 0,1,3,8,3,0 ");
        edges.terms(END, "its trains are gone, its tracks belong to the bank, and its contracts have no holder.");
        edges.answers("rust", 0, game, it -> it.about(10));
        edges.refuses("its first train", Edges.NO_SUCH, () -> endedDebt(5, 9), it -> it.train(0, 0, 0));
        for (int t = 0; t < 3; t++) {
            int track = t;
            edges.answers("its track", NONE, game, it -> it.track(track, 3));
        }
        RustRails most = Checks.gameOf("R2" + "t012".repeat(16));
        for (int t = 0; t < 16; t++) {
            most.buyTrack(0, t);
        }
        for (int k = 0; k < 8; k++) {
            most.offer(0, 1, 1, 9);
            most.take(0, k);
        }
        edges.answers("4 coins, 40 for fines, 16 for tracks", 1, most, RustRails::endRound);
        edges.same("of all tracks and contracts none is left", most.company(0, 3) + " " + most.company(0, 4), "0 0");
        edges.answers("of four trains none is left", 0, fourTrains(), it -> it.endRound() - 1 + it.company(0, 2));
    }

    private static RustRails endedDebt(int length, int rent) {
        RustRails game = inDebt(length, rent);
        game.endRound();
        return game;
    }

    /** Company 0 has four trains, 20 coins and five contracts. */
    private static RustRails fourTrains() {
        RustRails game = new RustRails();
        for (int j = 0; j < 4; j++) {
            game.buyTrain(0, 1);
        }
        for (int k = 0; k < 4; k++) {
            game.offer(0, 1, 1, 9);
            game.take(0, k);
        }
        return game;
    }

    /** The first step ends the contracts: the third one finds only those that are left. */
    private void goneBeforeBankrupt() {
        edges.terms(END, "its rounds (only those of contracts with a holder) decrease by 1; if they are 0 then, it is gone.",
                "its trains are gone, its tracks belong to the bank, and its contracts have no holder.");
        RustRails game = Checks.gameOf("R2t011c01101c01202c01303");
        game.buyTrain(3, 2);
        game.buyTrain(3, 3);
        game.take(3, 0);
        game.take(3, 1);
        edges.answers("bankrupt", 1, game, RustRails::endRound);
        edges.answers("one is gone", 2, game, it -> it.about(2));
        edges.same("the other has one round and no holder", game.contract(0, 2) + " " + game.contract(0, 3) + " "
                + game.contract(0, 4), "20 1 -9");
        edges.same("the third is as it was", game.contract(1, 2) + " " + game.contract(1, 3), "30 3");
        edges.answers("both fines count", 10, game, it -> it.about(8));
        game.endRound();
        edges.answers("without a holder it stays", 2, game, it -> it.about(2));
    }

    private void goingOn() {
        edges.terms(END, "(It can go on.)");
        Edges.Recipe recipe = () -> endedDebt(9, 9);
        edges.answers("it can take a contract", 1, recipe.game(), game -> game.take(0, 0));
        edges.answers("it can change its rent", 1, recipe.game(), game -> game.setRent(0, 5));
        edges.refuses("it has no coins for a track", Edges.NOT_NOW, () -> {
            RustRails game = Checks.gameOf("R2t011c01019");
            game.buyTrain(0, 2);
            game.buyTrain(0, 3);
            game.endRound();
            return game;
        }, game -> game.buyTrack(0, 0));
        edges.refuses("it has no coins for a train", Edges.NOT_NOW, recipe, game -> game.buyTrain(0, 2));
        edges.answers("it pays nothing, and is not bankrupt again", 0, recipe.game(), RustRails::endRound);
        RustRails game = recipe.game();
        game.take(0, 0);
        edges.answers("a fine makes it bankrupt again", 1, game, RustRails::endRound);
        edges.answers("twice", 2, game, it -> it.company(0, 6));
        edges.answers("its contract has no holder again", NONE, game, it -> it.contract(0, 4));
        edges.answers("nor does it matter to the others", 0, game, it -> it.company(1, 6) + it.endRound());
    }

    private void howMany() {
        edges.promise(17, "Returns how many companies are bankrupt by this.");
        for (int mask = 0; mask < 16; mask++) {
            RustRails game = new RustRails();
            for (int i = 0; i < 4; i++) {
                game.buyTrain(i, 2);
                if ((mask >> i & 1) == 1) {
                    game.buyTrain(i, 2);
                    game.buyTrain(i, 1);
                }
            }
            String who = Integer.toBinaryString(mask);
            edges.answers("those of " + who, Integer.bitCount(mask), game, RustRails::endRound);
            for (int i = 0; i < 4; i++) {
                int company = i;
                boolean isBankrupt = (mask >> i & 1) == 1;
                edges.answers(who + ": company " + i, isBankrupt ? 1 : 0, game, it -> it.company(company, 6));
                edges.answers(who + ": its trains", isBankrupt ? 0 : 1, game, it -> it.company(company, 2));
                edges.answers(who + ": its coins", isBankrupt ? 0 : 58, game, it -> it.company(company, 0));
            }
            edges.answers("not again", 0, game, RustRails::endRound);
        }
    }

    // ---- 4. the next round

    private void nextRound() {
        edges.terms(END, "4. The round, which is 0 at first, increases by 1; no train and no contract has run in it yet.");
        RustRails game = Checks.gameOf("R2t011" + "c01995".repeat(5));
        for (int j = 0; j < 4; j++) {
            game.buyTrain(j / 2, 1);
            game.take(j / 2, j);
            game.run(j, j % 2);
        }
        edges.answers("at first", 0, game, it -> it.about(4));
        edges.same("all ran", Games.trains(game, 0) + Games.trains(game, 1), "1!1!1!1!");
        game.endRound();
        edges.answers("then", 1, game, it -> it.about(4));
        edges.same("none ran", Games.trains(game, 0) + Games.trains(game, 1), "1111");
        for (int k = 0; k < 5; k++) {
            int contract = k;
            edges.answers("contract " + k + " was not run", 0, game, it -> it.contract(contract, 5));
        }
        game.run(1, 0);
        game.endRound();
        edges.answers("then", 2, game, it -> it.about(4));
        edges.answers("not run either", 0, game, it -> it.contract(1, 5) + it.train(0, 0, 1));
    }

    private void fiveHundredAndTwelveCalls() {
        RustRails game = new RustRails();
        for (int round = 1; round <= 510; round++) {
            game.endRound();
        }
        edges.terms("What it is", "An object is used for at most 512 calls after it has been made;");
        edges.answers("call 511", 510, game, it -> it.about(4));
        edges.answers("call 512", 0, game, RustRails::endRound);
    }
}
