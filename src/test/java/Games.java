/** The games with which the tests of the edges begin. */
final class Games {
    // Tracks 5 to 13 have the lengths 1 to 9, are the bank's, and lie where no mail is carried.
    private static final String COUNTED =
            "R4t011t019t019t019t015t231t232t233t234t235t236t237t238t239" + "c01999".repeat(4);
    static final int TRACK_BEFORE_LENGTH_1 = 4;

    private Games() {
    }

    /** A young game: few states are remembered, slot 1 is empty, and the text is a game. */
    static RustRails young() {
        RustRails game = Checks.gameOf("R4t012t122c02405c01011");
        game.buyTrain(3, 1);
        game.buyTrain(0, 1);
        game.save(0);
        game.take(3, 0);
        game.run(0, 0);
        return game;
    }

    /**
     * An old game: contracts and trains have run, trains have rusted, company 2 was bankrupt, 14 states are
     * remembered, both slots are filled, and the text is no game.
     */
    static RustRails old() {
        RustRails game = Checks.gameOf("R4t012t123t231t019c03305c12092c20015c01991c02408");
        game.buyTrain(0, 1);
        game.buyTrack(0, 0);
        game.buyTrack(1, 1);
        game.setRent(1, 4);
        game.take(0, 0);
        game.take(1, 1);
        game.save(0);
        game.buyTrain(0, 2);
        game.run(0, 1);
        game.endRound();
        game.buyTrain(2, 2);
        game.buyTrain(2, 3);
        game.take(2, 2);
        game.endRound();
        game.save(1);
        game.setRent(3, 9);
        game.offer(3, 1, 7, 3);
        game.take(3, 4);
        game.take(1, 2);
        game.take(0, 3);
        game.buyTrack(3, 3);
        game.buyTrain(3, 2);
        game.run(3, 0);
        Checks.type(game, "R3t012t12");
        return game;
    }

    /** Nothing more is possible: the text, the contracts and company 3's places for trains are full, all is held. */
    static RustRails closed() {
        RustRails game = Checks.gameOf("R4t011t122" + "c01999".repeat(8));
        game.buyTrack(3, 0);
        game.buyTrack(3, 1);
        game.buyTrain(0, 1);
        for (int j = 0; j < 4; j++) {
            game.buyTrain(3, 1);
        }
        for (int k = 0; k < 8; k++) {
            game.take(3, k);
        }
        game.run(0, 0);
        Checks.type(game, "x".repeat(100));
        return game;
    }

    /** A loaded game of which nothing is remembered or saved, with a text that is no game. */
    static RustRails untouched() {
        RustRails game = Checks.gameOf("R4t012t122c02405c01011");
        game.append('x');
        return game;
    }

    /** Company 1 has just these coins, 1 to 133, no trains, and the first tracks; the others have led to the phase. */
    static RustRails counted(int coins, int phase) {
        RustRails game = Checks.gameOf(COUNTED);
        int track = 0;
        game.buyTrack(1, track);
        while (game.company(1, 0) > coins) {
            track++;
            game.buyTrack(1, track);
        }
        for (int k = 0; k < 4; k++) {
            game.buyTrain(0, 1);
            game.take(0, k);
            game.setRent(1, Math.min(9, coins - game.company(1, 0)));
            game.run(k, k);
        }
        for (int level = 2; level <= phase; level++) {
            game.buyTrain(level <= 3 ? 2 : level == 4 ? 3 : 0, level);
        }
        return game;
    }

    /** All companies have more than 600 coins and two trains of level 1, but that company 3 has led to the phase. */
    static RustRails rich(int phase) {
        RustRails game = Checks.gameOf("R2t011" + "c01999".repeat(8));
        for (int k = 0; k < 8; k++) {
            game.buyTrain(k / 2, 1);
            game.take(k / 2, k);
        }
        for (int round = 0; round < 3; round++) {
            for (int k = 0; k < 8; k++) {
                game.run(k, k % 2);
            }
            game.endRound();
        }
        for (int level = 2; level <= phase; level++) {
            game.buyTrain(3, level);
        }
        return game;
    }

    /**
     * Company 0 has one train of the level, its last one, which did not run in this round. Contract 0, from city 0
     * to city 3, is as long as its reach, and contract 1, from city 4 to city 7, is longer by 1; it holds both.
     */
    static RustRails reaching(int level) {
        int reach = 4 * level;
        RustRails game = Checks.gameOf("R9" + chain(0, reach) + chain(4, reach + 1) + "t081" + "c03999c47999c08999c08999");
        for (int j = 0; j < 2; j++) {
            game.buyTrain(0, 1);
            game.take(0, 2 + j);
            game.run(2 + j, j);
        }
        for (int next = 2; next < level; next++) {
            game.buyTrain(next <= 3 ? 2 : next == 4 ? 3 : 0, next);
        }
        game.buyTrain(0, level);
        game.take(0, 0);
        game.take(0, 1);
        return game;
    }

    /** Three tracks in a row that are so long together. */
    private static String chain(int city, int length) {
        int first = Math.min(9, length - 2);
        int second = Math.min(9, length - first - 1);
        return "t" + city + (city + 1) + first + "t" + (city + 1) + (city + 2) + second
                + "t" + (city + 2) + (city + 3) + (length - first - second);
    }

    /** The coins of all companies and the bank. */
    static int allCoins(RustRails game) {
        int coins = game.about(5);
        for (int i = 0; i < 4; i++) {
            coins += game.company(i, 0);
        }
        return coins;
    }

    /** The levels of a company's trains, with ! behind those that ran. */
    static String trains(RustRails game, int i) {
        StringBuilder levels = new StringBuilder();
        for (int j = 0; j < game.company(i, 2); j++) {
            levels.append(game.train(i, j, 0)).append(game.train(i, j, 1) == 1 ? "!" : "");
        }
        return levels.toString();
    }
}
