/** Promises 11 to 18: buyTrack, buyTrain, setRent, offer, take, run, endRound, undo. */
final class ActionsTest {
    private static final Checks CHECKS = new Checks();

    public static void main(String[] args) {
        tracks();
        trains();
        rust();
        highestLevel();
        fullOfTrains();
        rents();
        offers();
        taking();
        runs();
        runsBelowZero();
        trainsMoveWithTheirRuns();
        newTrainsDidNotRun();
        rounds();
        bankruptcy();
        undoing();
        undoTakesAllBack();
        refusedCallsAreNoActions();
        CHECKS.end();
    }

    private static void tracks() {
        RustRails game = Checks.gameOf("R3t019t019t019t019t122");
        CHECKS.outOfBounds("company 4", () -> game.buyTrack(4, 0));
        CHECKS.outOfBounds("company -1", () -> game.buyTrack(-1, 0));
        CHECKS.outOfBounds("track 5", () -> game.buyTrack(0, 5));
        CHECKS.outOfBounds("track -1", () -> game.buyTrack(0, -1));
        CHECKS.due("27 coins", 73, () -> game.buyTrack(0, 0));
        CHECKS.badState("its own", () -> game.buyTrack(0, 0));
        CHECKS.badState("another's", () -> game.buyTrack(1, 0));
        CHECKS.due("again", 46, () -> game.buyTrack(0, 1));
        CHECKS.due("again", 19, () -> game.buyTrack(0, 2));
        CHECKS.badState("too few coins", () -> game.buyTrack(0, 3));
        CHECKS.due("a cheap one", 13, () -> game.buyTrack(0, 4));
        CHECKS.due("the bank got them", -313, () -> game.about(5));
        CHECKS.due("that is no rent", 0, () -> game.about(6));
        RustRails exact = Checks.gameOf("R2t019t019t019t016t011");
        for (int t = 0; t < 3; t++) {
            exact.buyTrack(2, t);
        }
        CHECKS.due("just enough but for one", 1, () -> exact.buyTrack(2, 3));
        CHECKS.badState("one coin, three wanted", () -> exact.buyTrack(2, 4));
        RustRails just = Checks.gameOf("R2t019t019t012");
        just.buyTrain(0, 2);
        just.buyTrack(0, 0);
        just.buyTrack(0, 1);
        CHECKS.due("6 of 6 coins", 0, () -> just.buyTrack(0, 2));
    }

    private static void trains() {
        RustRails game = new RustRails();
        CHECKS.outOfBounds("company 4 before the level", () -> game.buyTrain(4, 0));
        CHECKS.outOfBounds("company -1", () -> game.buyTrain(-1, 1));
        CHECKS.badArgument("level 0", () -> game.buyTrain(0, 0));
        CHECKS.badArgument("level 7", () -> game.buyTrain(0, 7));
        CHECKS.badState("level 3 in phase 1", () -> game.buyTrain(0, 3));
        CHECKS.due("level 1", 0, () -> game.buyTrain(0, 1));
        CHECKS.due("the phase stays", 1, () -> game.about(3));
        CHECKS.due("level 2", 0, () -> game.buyTrain(0, 2));
        CHECKS.due("the phase grows", 2, () -> game.about(3));
        CHECKS.due("level 2 for the last coins", 0, () -> game.buyTrain(0, 2));
        CHECKS.due("no coins", 0, () -> game.company(0, 0));
        CHECKS.badState("no coins for level 1", () -> game.buyTrain(0, 1));
        CHECKS.due("the phase stays", 2, () -> game.about(3));
        CHECKS.due("the bank got them", -300, () -> game.about(5));
        RustRails poor = new RustRails();
        poor.buyTrack(0, 0);
        poor.buyTrain(1, 2);
        poor.buyTrain(1, 3);
        CHECKS.due("100 coins for 40 and 60", 0, () -> poor.company(1, 0));
        CHECKS.due("80 of 94", 1, () -> poor.buyTrain(0, 4));
        CHECKS.badState("60 for 14 coins", () -> poor.buyTrain(0, 3));
    }

    private static void rust() {
        RustRails game = new RustRails();
        game.buyTrain(0, 1);
        game.buyTrain(0, 2);
        game.buyTrain(0, 1);
        game.buyTrain(1, 1);
        game.buyTrain(3, 2);
        CHECKS.due("all of level 1", 3, () -> game.buyTrain(2, 3));
        CHECKS.due("rusted so far", 3, () -> game.about(10));
        CHECKS.due("one of company 0 is left", 1, () -> game.company(0, 2));
        CHECKS.due("its number is 0 now", 2, () -> game.train(0, 0, 0));
        CHECKS.due("none of company 1", 0, () -> game.company(1, 2));
        CHECKS.due("the one of company 3", 2, () -> game.train(3, 0, 0));
        CHECKS.badState("level 1 in phase 3", () -> game.buyTrain(1, 1));
        CHECKS.due("level 2 in phase 3", 0, () -> game.buyTrain(1, 2));
        CHECKS.badState("level 5 in phase 3", () -> game.buyTrain(1, 5));
        CHECKS.due("level 2 rusts", 3, () -> {
            RustRails other = new RustRails();
            other.buyTrain(0, 2);
            other.buyTrain(1, 2);
            other.buyTrain(0, 2);
            other.buyTrain(3, 3);
            return other.buyTrain(2, 4);
        });
        RustRails last = new RustRails();
        last.buyTrain(0, 2);
        last.buyTrain(1, 3);
        last.buyTrain(2, 4);
        CHECKS.due("level 5", 1, () -> last.buyTrain(3, 5));
        CHECKS.due("phase 5", 5, () -> last.about(3));
        CHECKS.badState("level 6 for 120 coins", () -> last.buyTrain(3, 6));
    }

    /** Companies 0 and 1 earn what the highest levels cost. */
    private static void highestLevel() {
        RustRails game = Checks.gameOf("R2t011c01999c10999c01999");
        for (int i = 0; i < 2; i++) {
            game.buyTrain(i, 1);
            game.take(i, i);
            game.run(i, 0);
        }
        game.buyTrain(2, 2);
        CHECKS.due("two of level 1", 2, () -> game.buyTrain(3, 3));
        CHECKS.due("one of level 2", 1, () -> game.buyTrain(0, 4));
        CHECKS.badState("level 6 in phase 4", () -> game.buyTrain(1, 6));
        CHECKS.due("one of level 3", 1, () -> game.buyTrain(1, 5));
        game.take(0, 2);
        game.run(2, 0);
        CHECKS.due("coins", 196, () -> game.company(0, 0));
        CHECKS.due("one of level 4", 1, () -> game.buyTrain(0, 6));
        CHECKS.due("phase 6", 6, () -> game.about(3));
        CHECKS.due("120 coins", 76, () -> game.company(0, 0));
        CHECKS.due("rusted so far", 5, () -> game.about(10));
        CHECKS.badArgument("level 7 in phase 6", () -> game.buyTrain(0, 7));
    }

    private static void fullOfTrains() {
        RustRails game = new RustRails();
        for (int j = 0; j < 4; j++) {
            game.buyTrain(0, 1);
        }
        game.offer(0, 1, 99, 9);
        game.take(0, 0);
        game.run(0, 0);
        game.buyTrain(1, 2);
        CHECKS.due("enough coins", 117, () -> game.company(0, 0));
        CHECKS.badState("a fifth train", () -> game.buyTrain(0, 2));
        CHECKS.badState("also if some would rust", () -> game.buyTrain(0, 3));
        CHECKS.due("they are still there", 4, () -> game.company(0, 2));
    }

    private static void rents() {
        RustRails game = new RustRails();
        CHECKS.due("the first rent", 1, () -> game.setRent(2, 9));
        CHECKS.due("then", 9, () -> game.setRent(2, 0));
        CHECKS.due("then", 0, () -> game.setRent(2, 0));
        CHECKS.due("of another", 1, () -> game.company(1, 1));
        CHECKS.badArgument("-1", () -> game.setRent(0, -1));
        CHECKS.badArgument("10", () -> game.setRent(0, 10));
        CHECKS.outOfBounds("company before rent", () -> game.setRent(4, 10));
        CHECKS.outOfBounds("company -1", () -> game.setRent(-1, 1));
    }

    private static void offers() {
        RustRails game = new RustRails();
        CHECKS.outOfBounds("city 3", () -> game.offer(3, 3, 0, 0));
        CHECKS.outOfBounds("city 3 from", () -> game.offer(3, 0, 1, 1));
        CHECKS.outOfBounds("city 3 to", () -> game.offer(0, 3, 1, 1));
        CHECKS.outOfBounds("city -1 from", () -> game.offer(-1, 0, 1, 1));
        CHECKS.outOfBounds("city -1", () -> game.offer(0, -1, 1, 1));
        CHECKS.badArgument("the same city", () -> game.offer(1, 1, 5, 5));
        CHECKS.badArgument("pay 0", () -> game.offer(0, 1, 0, 5));
        CHECKS.badArgument("pay 100", () -> game.offer(0, 1, 100, 5));
        CHECKS.badArgument("rounds 0", () -> game.offer(0, 1, 5, 0));
        CHECKS.badArgument("rounds 10", () -> game.offer(0, 1, 5, 10));
        for (int k = 0; k < 8; k++) {
            int due = k;
            CHECKS.due("contract", due, () -> game.offer(2, 0, 99, 9));
        }
        CHECKS.badState("a ninth", () -> game.offer(2, 0, 1, 1));
        CHECKS.badArgument("pay before full", () -> game.offer(2, 0, 0, 1));
        CHECKS.outOfBounds("city before full", () -> game.offer(2, 3, 0, 1));
        CHECKS.due("pay", 99, () -> game.contract(7, 2));
        CHECKS.due("holder", RustRails.NONE, () -> game.contract(7, 4));
    }

    private static void taking() {
        RustRails game = Checks.gameOf("R3c01011c02025");
        CHECKS.outOfBounds("company 4", () -> game.take(4, 0));
        CHECKS.outOfBounds("company -1", () -> game.take(-1, 0));
        CHECKS.outOfBounds("contract 2", () -> game.take(0, 2));
        CHECKS.outOfBounds("contract -1", () -> game.take(0, -1));
        CHECKS.due("the first", 1, () -> game.take(0, 1));
        CHECKS.badState("its own", () -> game.take(0, 1));
        CHECKS.badState("another's", () -> game.take(2, 1));
        CHECKS.due("the second", 2, () -> game.take(0, 0));
        CHECKS.due("holds", 2, () -> game.company(0, 4));
        CHECKS.due("holder", 0, () -> game.contract(0, 4));
    }

    private static void runs() {
        RustRails game = Checks.gameOf("R3t012t122t029c02405c20105c12303");
        game.buyTrain(0, 1);
        game.buyTrain(0, 1);
        CHECKS.outOfBounds("contract 3", () -> game.run(3, 0));
        CHECKS.outOfBounds("contract -1", () -> game.run(-1, 0));
        CHECKS.badState("no holder", () -> game.run(0, 0));
        CHECKS.badState("no holder, and no such train", () -> game.run(0, 7));
        for (int k = 0; k < 3; k++) {
            game.take(0, k);
        }
        CHECKS.outOfBounds("train 2", () -> game.run(0, 2));
        CHECKS.outOfBounds("train -1", () -> game.run(0, -1));
        CHECKS.due("by two tracks", 4, () -> game.run(0, 1));
        CHECKS.due("coins", 96, () -> game.company(0, 0));
        CHECKS.due("rents", 4, () -> game.about(6));
        CHECKS.due("pays", 40, () -> game.about(7));
        CHECKS.due("the train ran", 1, () -> game.train(0, 1, 1));
        CHECKS.due("the other did not", 0, () -> game.train(0, 0, 1));
        CHECKS.due("the contract was run", 1, () -> game.contract(0, 5));
        CHECKS.badState("the contract was run", () -> game.run(0, 0));
        CHECKS.badState("the train ran", () -> game.run(1, 1));
        CHECKS.due("another train", 4, () -> game.run(1, 0));
        CHECKS.badState("no train left", () -> game.run(2, 0));
        game.endRound();
        CHECKS.due("in the next round", 2, () -> game.run(2, 0));
    }

    private static void runsBelowZero() {
        RustRails game = Checks.gameOf("R2t019c01015");
        game.buyTrack(1, 0);
        game.setRent(1, 9);
        game.buyTrain(0, 2);
        game.buyTrain(0, 3);
        game.take(0, 0);
        CHECKS.due("81 coins of 0", 81, () -> game.run(0, 1));
        CHECKS.due("below 0", -80, () -> game.company(0, 0));
        CHECKS.due("rents of company 1", 81, () -> game.company(1, 5));
        CHECKS.due("its coins", 154, () -> game.company(1, 0));
        CHECKS.due("endRound", 1, () -> game.endRound());
        CHECKS.due("0 coins", 0, () -> game.company(0, 0));
    }

    /** Rust moves the later trains of a company forward: what ran before has run then, too. */
    private static void trainsMoveWithTheirRuns() {
        RustRails game = Checks.gameOf("R2t011c01995");
        game.buyTrain(0, 1);
        game.buyTrain(0, 2);
        game.take(0, 0);
        game.run(0, 1);
        game.buyTrain(0, 3);
        CHECKS.due("trains", 2, () -> game.company(0, 2));
        CHECKS.due("level", 2, () -> game.train(0, 0, 0));
        CHECKS.due("it ran", 1, () -> game.train(0, 0, 1));
        CHECKS.due("the new one did not", 0, () -> game.train(0, 1, 1));
    }

    private static void newTrainsDidNotRun() {
        RustRails game = Checks.gameOf("R2t011c01995");
        game.buyTrain(0, 1);
        game.take(0, 0);
        game.run(0, 0);
        game.buyTrain(1, 2);
        game.buyTrain(2, 3);
        CHECKS.due("the train that ran is gone", 0, () -> game.company(0, 2));
        game.buyTrain(0, 2);
        CHECKS.due("what is bought in its place did not run", 0, () -> game.train(0, 0, 1));
    }

    private static void rounds() {
        RustRails game = Checks.gameOf("R3t012t122c01201c02202c12301c20405");
        game.buyTrain(0, 1);
        game.buyTrack(0, 1);
        game.take(0, 0);
        game.take(1, 2);
        game.take(1, 3);
        game.run(0, 0);
        CHECKS.due("endRound", 0, () -> game.endRound());
        CHECKS.due("the round", 1, () -> game.about(4));
        CHECKS.due("two contracts are over", 2, () -> game.about(2));
        CHECKS.due("contract 1 is 0 now", 20, () -> game.contract(0, 2));
        CHECKS.due("its rounds stay without a holder", 2, () -> game.contract(0, 3));
        CHECKS.due("contract 3 is 1 now", 40, () -> game.contract(1, 2));
        CHECKS.due("its city from", 2, () -> game.contract(1, 0));
        CHECKS.due("its city to", 0, () -> game.contract(1, 1));
        CHECKS.due("its holder", 1, () -> game.contract(1, 4));
        CHECKS.due("its rounds", 4, () -> game.contract(1, 3));
        CHECKS.due("two fines", 10, () -> game.about(8));
        CHECKS.due("company 1 paid them", 90, () -> game.company(1, 0));
        CHECKS.due("no fine for what was run", 90, () -> game.company(0, 0));
        CHECKS.due("the train can run again", 0, () -> game.train(0, 0, 1));
        game.endRound();
        CHECKS.due("what is over stays over", 2, () -> game.about(2));
        CHECKS.due("one more fine", 15, () -> game.about(8));
        CHECKS.due("one round less", 3, () -> game.contract(1, 3));
    }

    private static void bankruptcy() {
        RustRails game = Checks.gameOf("R2t019t019t012c01015c10015");
        game.buyTrack(3, 0);
        game.buyTrack(3, 1);
        game.buyTrain(3, 2);
        game.take(3, 0);
        game.take(3, 1);
        game.setRent(3, 7);
        game.buyTrack(2, 2);
        CHECKS.due("6 coins", 6, () -> game.company(3, 0));
        CHECKS.due("two fines and upkeep 4", 1, () -> game.endRound());
        CHECKS.same("a bankrupt company", Checks.picture(game),
                "2 3 2 2 1 -293 0 0 10 1 0 | 0,1,9,-9 0,1,9,-9 0,1,2,2 "
                + "| 100 1 0 0 0 0 0 | 100 1 0 0 0 0 0 | 93 1 0 1 0 0 0 | 0 7 0 0 0 0 1 "
                + "| 0,1,1,4,-9,0 1,0,1,4,-9,0 ");
        CHECKS.due("it goes on", 0, () -> game.endRound());
        CHECKS.due("and can take", 1, () -> game.take(3, 0));
        CHECKS.due("a fine of coins that it has not", 1, () -> game.endRound());
        CHECKS.due("bankrupt twice", 2, () -> game.company(3, 6));
        CHECKS.due("all bankruptcies", 2, () -> game.about(9));
        RustRails two = Checks.gameOf("R2c01999c10999");
        for (int i = 0; i < 2; i++) {
            two.buyTrain(i, 1 + i);
            two.buyTrain(i, 2);
            two.take(i, i);
        }
        two.buyTrain(0, 2);
        two.buyTrain(1, 1);
        CHECKS.due("5 + 5 of 0 coins, 5 + 5 of 0 coins", 2, () -> two.endRound());
        CHECKS.due("exactly 0 is not bankrupt", 0, () -> two.endRound());
    }

    private static void undoing() {
        RustRails game = new RustRails();
        CHECKS.badState("nothing to undo", () -> game.undo());
        for (int rent = 0; rent < 10; rent++) {
            game.setRent(0, rent);
        }
        for (int rent = 0; rent < 10; rent++) {
            game.setRent(1, rent);
        }
        CHECKS.due("14 are remembered", 13, () -> game.undo());
        CHECKS.due("the last is taken back", 8, () -> game.company(1, 1));
        for (int left = 12; left >= 0; left--) {
            int due = left;
            CHECKS.due("undo", due, () -> game.undo());
        }
        CHECKS.badState("the oldest are forgotten", () -> game.undo());
        CHECKS.due("14 of 20 are taken back", 5, () -> game.company(0, 1));
        CHECKS.due("and of the other all", 1, () -> game.company(1, 1));
        game.setRent(0, 5);
        CHECKS.due("an action without a change", 0, () -> game.undo());
        game.endRound();
        game.setRent(2, 2);
        CHECKS.due("undo", 1, () -> game.undo());
        game.setRent(3, 3);
        CHECKS.due("undo after undo and an action", 1, () -> game.undo());
        CHECKS.due("undo", 0, () -> game.undo());
        CHECKS.due("the round is taken back", 0, () -> game.about(4));
    }

    private static void undoTakesAllBack() {
        RustRails game = Checks.gameOf("R3t012t122c02405c01011");
        String[] before = new String[9];
        for (int action = 0; action < 9; action++) {
            before[action] = Checks.picture(game);
            act(game, action);
        }
        for (int action = 8; action >= 0; action--) {
            int due = action;
            CHECKS.due("undo", due, () -> game.undo());
            CHECKS.same("undo of action " + action, Checks.picture(game), before[action]);
        }
    }

    private static void act(RustRails game, int action) {
        switch (action) {
            case 0: game.buyTrain(0, 1); break;
            case 1: game.buyTrack(1, 0); break;
            case 2: game.setRent(1, 3); break;
            case 3: game.take(0, 0); break;
            case 4: game.run(0, 0); break;
            case 5: game.offer(2, 1, 8, 2); break;
            case 6: game.buyTrain(2, 2); break;
            case 7: game.buyTrain(3, 3); break;
            default: game.endRound(); break;
        }
    }

    private static void refusedCallsAreNoActions() {
        RustRails game = new RustRails();
        String before = Checks.picture(game);
        Checks.outcome(() -> game.buyTrack(0, 2));
        Checks.outcome(() -> game.buyTrain(0, 3));
        Checks.outcome(() -> game.buyTrain(0, 0));
        Checks.outcome(() -> game.setRent(0, 10));
        Checks.outcome(() -> game.offer(0, 0, 1, 1));
        Checks.outcome(() -> game.take(0, 0));
        Checks.outcome(() -> game.run(0, 0));
        CHECKS.same("nothing changed", Checks.picture(game), before);
        CHECKS.badState("nothing to undo", () -> game.undo());
    }
}
