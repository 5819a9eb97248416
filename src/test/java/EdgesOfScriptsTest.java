import java.math.BigInteger;

/** The edges of promises 26 and 27. */
final class EdgesOfScriptsTest {
    private static final int NONE = Edges.NONE;
    private static final long GROUP = 100000;
    private static final String FAIL = "The commands 1 to 6 fail if the method with this effect would throw an exception; "
            + "commands with companies, tracks, trains or contracts that do not exist fail, and so does any other group "
            + "(also one with another digit where a 0 is written).";

    private static final String COMMANDS =
            "1 i 0 x y: company i buys track xy. 2 i 0 0 l: company i buys a train of the level l. "
            + "3 i 0 0 r: the rent of company i becomes r. 4 i 0 0 k: company i takes contract k. 5 k 0 0 j: a run for "
            + "contract k with train j. 6 0 0 0 0: ends the round. 7 i x y z: succeeds if company i has at least xyz coins. "
            + "8 0 0 0 p: succeeds if the phase is p. 9 i 0 0 m: succeeds if company i has just m trains.";

    private final Edges edges;

    private EdgesOfScriptsTest(Edges edges) {
        this.edges = edges;
    }

    public static void main(String[] args) {
        Edges.test(EdgesOfScriptsTest::all);
    }

    static void all(Edges edges) {
        EdgesOfScriptsTest test = new EdgesOfScriptsTest(edges);
        test.numbersOfCommands();
        test.digits();
        test.zerosBefore();
        test.firstThatFails();
        test.allGroups();
        test.groupsWithOtherDigits();
        test.coinsThatAreAskedFor();
        test.ninehundredAndNinetyNineCoins();
        test.tracksOfTwoDigits();
        test.levelsOfScripts();
        test.rentsOfScripts();
        test.onACopy();
        test.rounds();
        test.draws();
        test.drawsThatDoNothing();
        test.firstTrainThatCan();
        test.seeds();
        test.manyRounds();
        test.greatestWorth();
    }

    // ---- promise 26: the number

    private void numbersOfCommands() {
        edges.promise(26, "`n`: number of commands, 1 to 3", "A script has 1 to 3 commands;",
                "Throws `IllegalArgumentException` if n is out of range, or if script is negative or has more than 5 * n digits");
        for (Edges.Recipe recipe : new Edges.Recipe[] {RustRails::new, Games::old}) {
            for (int n : new int[] {Integer.MIN_VALUE, -1, 0, 4, 5, Integer.MAX_VALUE}) {
                edges.refuses(n + " commands", Edges.OUT_OF_RANGE, recipe, game -> game.runScript(n, 0));
                edges.refuses(n + " commands", Edges.OUT_OF_RANGE, recipe, game -> game.runScript(n, 60000));
                edges.refuses(n + " commands", Edges.OUT_OF_RANGE, recipe, game -> game.runScript(n, -1));
            }
        }
        edges.onlyAnswers("1 command", NONE, RustRails::new, game -> game.runScript(1, 60000L));
        edges.onlyAnswers("2 commands", NONE, RustRails::new, game -> game.runScript(2, 6000060000L));
        edges.onlyAnswers("3 commands", NONE, RustRails::new, game -> game.runScript(3, 600006000060000L));
    }

    private void digits() {
        edges.promise(26, "`script`: the commands, a number of at most 5 * n digits (0 or more)",
                "Throws `IllegalArgumentException` if n is out of range, or if script is negative or has more than 5 * n digits");
        long end = 1;
        for (int number = 1; number <= 3; number++) {
            int n = number;
            end *= GROUP;
            long tooMuch = end;
            edges.onlyAnswers("the greatest of " + n, 0, Games::old, game -> game.runScript(n, tooMuch - 1));
            edges.onlyAnswers("the least of " + n, 0, Games::old, game -> game.runScript(n, 0));
            for (long script : new long[] {tooMuch, tooMuch + 60000, 10 * tooMuch, Long.MAX_VALUE, -1, -60000,
                Long.MIN_VALUE, Long.MIN_VALUE + 1}) {
                edges.refuses(n + " of " + script, Edges.OUT_OF_RANGE, Games::old, game -> game.runScript(n, script));
            }
        }
        edges.onlyAnswers("as many digits as can be", NONE, RustRails::new, game -> game.runScript(1, 90000));
        edges.refuses("one digit more", Edges.OUT_OF_RANGE, RustRails::new, game -> game.runScript(1, 160000));
        edges.refuses("one command more", Edges.OUT_OF_RANGE, RustRails::new, game -> game.runScript(2, 600006000060000L));
    }

    private void zerosBefore() {
        edges.promise(26, "each is a group of five decimal digits d1 to d5, and the first command is the highest group of the "
                + "number (with zeros before it, if it has fewer digits).");
        edges.answers("the first of two is 00000", 0, new RustRails(), game -> game.runScript(2, 60000));
        edges.answers("the first of three is 00000", 0, new RustRails(), game -> game.runScript(3, 6000060000L));
        edges.answers("the second of two is 00000", 1, new RustRails(), game -> game.runScript(2, 6000000000L));
        edges.answers("the first of two is 06000", 0, new RustRails(), game -> game.runScript(2, 600060000L));
        edges.answers("the only one is 06000", 0, new RustRails(), game -> game.runScript(1, 6000));
        edges.answers("the second of two is 06000", 1, new RustRails(), game -> game.runScript(2, 6000006000L));
    }

    private void firstThatFails() {
        edges.promise(26, "Returns the index, from 0, of the first command that fails; NONE if all succeed.");
        long good = 60000;
        long bad = 60001;
        for (int n = 1; n <= 3; n++) {
            for (int mask = 0; mask < 1 << n; mask++) {
                long script = 0;
                int first = NONE;
                for (int command = 0; command < n; command++) {
                    boolean fails = (mask >> command & 1) == 1;
                    script = script * GROUP + (fails ? bad : good);
                    first = fails && first == NONE ? command : first;
                }
                int commands = n;
                long told = script;
                edges.onlyAnswers("failing " + Integer.toBinaryString(mask) + " of " + n, first, Games::young,
                        game -> game.runScript(commands, told));
            }
        }
        edges.answers("the first changes what the second needs", NONE, new RustRails(), it -> it.runScript(2, 2000220003L));
        edges.answers("without it, it fails", 0, new RustRails(), it -> it.runScript(1, 20003));
        edges.answers("the third needs both", NONE, new RustRails(), it -> it.runScript(3, 200022100322004L));
        edges.answers("without the second", 1, new RustRails(), it -> it.runScript(2, 2000222004L));
    }

    // ---- promise 26: the commands

    /** Each of the 100000 groups as a script of its own, in three games. */
    private void allGroups() {
        edges.promise(26, FAIL, COMMANDS);
        for (Edges.Recipe recipe : new Edges.Recipe[] {Games::young, Games::old, Games::closed}) {
            RustRails sample = recipe.game();
            int phase = sample.about(3);
            String before = Checks.picture(sample);
            for (int group = 0; group < GROUP; group++) {
                if (sometimes(group)) {
                    sample = recipe.game();
                }
                RustRails game = sample;
                int script = group;
                boolean succeeds = succeeds(recipe, game, phase, group);
                edges.answers("group " + group, succeeds ? NONE : 0, game, it -> it.runScript(1, script));
            }
            edges.same("they change nothing", Checks.picture(sample), before);
        }
    }

    /** So that no object takes more than 512 calls. */
    private static boolean sometimes(int group) {
        return group % 100 == 0;
    }

    private static boolean succeeds(Edges.Recipe recipe, RustRails game, int phase, int group) {
        int who = group / 1000 % 10;
        int zeros = group / 100 % 10;
        int xy = group % 100;
        int last = group % 10;
        boolean oneDigit = group / 10 % 100 == 0;
        switch (group / 10000) {
            case 1: return zeros == 0 && works(recipe, it -> it.buyTrack(who, xy));
            case 2: return oneDigit && works(recipe, it -> it.buyTrain(who, last));
            case 3: return oneDigit && works(recipe, it -> it.setRent(who, last));
            case 4: return oneDigit && works(recipe, it -> it.take(who, last));
            case 5: return oneDigit && works(recipe, it -> it.run(who, last));
            case 6: return group == 60000;
            case 7: return who <= 3 && game.company(who, 0) >= group % 1000;
            case 8: return group == 80000 + phase;
            case 9: return oneDigit && who <= 3 && game.company(who, 2) == last;
            default: return false;
        }
    }

    private static boolean works(Edges.Recipe recipe, Edges.Call call) {
        return !Edges.outcome(recipe.game(), call).endsWith("Exception");
    }

    private void groupsWithOtherDigits() {
        edges.promise(26, FAIL, COMMANDS);
        Edges.Recipe recipe = () -> {
            RustRails game = Checks.gameOf("R2t011t011c01505c01505");
            game.buyTrain(0, 1);
            game.take(0, 0);
            return game;
        };
        int[] good = {10001, 13001, 20001, 23002, 30000, 33009, 40001, 43001, 50000, 60000, 70079, 73100, 80001,
            90001, 91000};
        int[] bad = {10101, 10901, 10002, 14001, 19000, 20101, 20011, 20000, 20003, 20007, 24001, 30100, 30010, 34000,
            40101, 40011, 40000, 40002, 44001, 50100, 50010, 50001, 51000, 52000, 60001, 60010, 60100, 61000, 70081,
            74000, 79000, 80101, 80011, 81001, 80000, 80002, 90101, 90011, 90000, 90002, 94000, 0, 1, 10, 100, 1000,
            9999};
        for (int group : good) {
            edges.onlyAnswers("group " + group, NONE, recipe, game -> game.runScript(1, group));
        }
        for (int group : bad) {
            edges.onlyAnswers("group " + group, 0, recipe, game -> game.runScript(1, group));
        }
    }

    private void coinsThatAreAskedFor() {
        edges.promise(26, "7 i x y z: succeeds if company i has at least xyz coins.", "xy and xyz are decimal numbers.");
        for (int coins = 1; coins <= 133; coins++) {
            RustRails game = Games.counted(coins, 1);
            int group = 71000 + coins;
            edges.answers(coins + " coins, one less asked for", NONE, game, it -> it.runScript(1, group - 1));
            edges.answers(coins + " coins, all asked for", NONE, game, it -> it.runScript(1, group));
            edges.answers(coins + " coins, one more asked for", 0, game, it -> it.runScript(1, group + 1));
        }
        RustRails none = Checks.gameOf("R2t019c01015");
        none.buyTrack(1, 0);
        none.setRent(1, 9);
        none.buyTrain(0, 2);
        none.buyTrain(0, 3);
        none.take(0, 0);
        edges.answers("0 coins, 0 asked for", NONE, none, it -> it.runScript(1, 70000));
        edges.answers("0 coins, 1 asked for", 0, none, it -> it.runScript(1, 70001));
        none.run(0, 1);
        edges.answers("coins below 0, 0 asked for", 0, none, it -> it.runScript(1, 70000));
        edges.answers("0 after the round", NONE, none, it -> it.runScript(2, 6000070000L));
        RustRails rich = Games.rich(1);
        edges.answers("642 coins", NONE, rich, it -> it.runScript(1, 73642));
        edges.answers("643 coins", 0, rich, it -> it.runScript(1, 73643));
        edges.answers("999 coins", 0, rich, it -> it.runScript(1, 73999));
    }

    private void ninehundredAndNinetyNineCoins() {
        edges.promise(26, "7 i x y z: succeeds if company i has at least xyz coins.");
        for (int coins = 998; coins <= 1000; coins++) {
            RustRails game = Checks.gameOf("R2t011c01999");
            game.buyTrain(1, 1);
            game.take(1, 0);
            for (int round = 0; round < 9; round++) {
                game.run(0, 0);
                game.endRound();
            }
            game.offer(0, 1, coins - 952, 1);
            game.take(1, 0);
            game.run(0, 0);
            edges.answers("its coins", coins, game, it -> it.company(1, 0));
            edges.answers("998 of " + coins, NONE, game, it -> it.runScript(1, 71998));
            edges.answers("999 of " + coins, coins < 999 ? 0 : NONE, game, it -> it.runScript(1, 71999));
            edges.answers("999 of company 0", 0, game, it -> it.runScript(1, 70999));
            edges.answers("999 of company 2", 0, game, it -> it.runScript(1, 72999));
        }
    }

    private void tracksOfTwoDigits() {
        edges.promise(26, "1 i 0 x y: company i buys track xy.", "xy and xyz are decimal numbers.");
        for (int tracks : new int[] {0, 1, 9, 10, 11, 15, 16}) {
            RustRails game = Checks.gameOf("R2" + "t011".repeat(tracks));
            for (int t = 0; t <= 99; t++) {
                int group = 12000 + t;
                edges.answers("track " + t + " of " + tracks, t < tracks ? NONE : 0, game, it -> it.runScript(1, group));
            }
        }
        RustRails lengths = Checks.gameOf("R2" + "t019".repeat(10) + "t011");
        edges.answers("it is track 10 that is bought", NONE, lengths, it -> it.runScript(2, 1001070097L));
        edges.answers("not track 1", 1, lengths, it -> it.runScript(2, 1000170097L));
        edges.answers("the same track twice", 1, lengths, it -> it.runScript(2, 1001011010L));
    }

    private void levelsOfScripts() {
        edges.promise(26, "2 i 0 0 l: company i buys a train of the level l.", FAIL);
        for (int p = 1; p <= 6; p++) {
            int phase = p;
            RustRails game = Games.rich(phase);
            edges.answers("coins for any level", 642, game, it -> it.company(2, 0));
            for (int level = 0; level <= 9; level++) {
                int group = 22000 + level;
                boolean isSold = level >= Math.max(1, phase - 1) && level <= Math.min(6, phase + 1);
                edges.answers("level " + level + " in phase " + phase, isSold ? NONE : 0, game,
                        it -> it.runScript(1, group));
            }
        }
    }

    private void rentsOfScripts() {
        edges.promise(26, "3 i 0 0 r: the rent of company i becomes r.");
        for (int r = 0; r <= 9; r++) {
            int rent = r;
            RustRails game = Checks.gameOf("R2t011c01105");
            game.buyTrack(1, 0);
            game.setRent(1, 5);
            game.buyTrain(0, 1);
            game.take(0, 0);
            long script = 3100050000L * GROUP + rent * GROUP * GROUP + 71097;
            edges.answers("a run, and what company 1 has then", NONE, game, it -> it.runScript(3, script + rent));
            edges.answers("not more", 2, game, it -> it.runScript(3, script + rent + 1));
            long other = 3200050000L * GROUP + rent * GROUP * GROUP + 71097;
            edges.answers("not the rent of company 2", NONE, game, it -> it.runScript(3, other + 5));
            edges.answers("not the rent of company 2", 2, game, it -> it.runScript(3, other + 6));
        }
    }

    private void onACopy() {
        edges.promise(26, "Runs a script on a copy of the state.");
        for (Edges.Recipe recipe : new Edges.Recipe[] {Games::untouched, Games::young, Games::old, Games::closed}) {
            long[] scripts = {100001100020001L, 200022100332004L, 300093100832007L, 400004100142001L, 500005000150002L,
                600006000060000L, 200024000050000L, 600002000260000L, 100006000000000L};
            for (long script : scripts) {
                int due = recipe.game().runScript(3, script);
                edges.onlyAnswers("script " + script, due, recipe, game -> game.runScript(3, script));
            }
        }
        RustRails game = new RustRails();
        edges.answers("a track is bought", NONE, game, it -> it.runScript(1, 10000));
        edges.answers("and bought again", NONE, game, it -> it.runScript(2, 1000070094L));
        edges.answers("as if it had not been", 94, game, it -> it.buyTrack(0, 0));
    }

    // ---- promise 27

    private void rounds() {
        edges.promise(27, "`m`: number of rounds, 1 to 50", "Throws `IllegalArgumentException` if m is out of range",
                "Simulates m rounds on a copy of the state.");
        for (Edges.Recipe recipe : new Edges.Recipe[] {RustRails::new, Games::young, Games::old, Games::closed}) {
            for (int m : new int[] {Integer.MIN_VALUE, -1, 0, 51, 52, Integer.MAX_VALUE}) {
                edges.refuses(m + " rounds", Edges.OUT_OF_RANGE, recipe, game -> game.simulate(7, m));
                edges.refuses(m + " rounds", Edges.OUT_OF_RANGE, recipe, game -> game.simulate(Long.MIN_VALUE, m));
            }
            for (int m : new int[] {1, 2, 49, 50}) {
                int due = recipe.game().simulate(7, m);
                edges.onlyAnswers(m + " rounds", due, recipe, game -> game.simulate(7, m));
            }
        }
        RustRails upkeep = Checks.gameOf("R2t019t011t011t011t011t011t011t011t011t011t011");
        for (int i = 0; i <= 3; i++) {
            upkeep.buyTrack(i, i);
        }
        long quiet = seedFor(7);
        edges.answers("one round costs upkeep once", 10100 - 1, upkeep, game -> game.simulate(quiet, 1));
    }

    /** A round that begins with this r; its second one is free. */
    private static long seedFor(int r) {
        long factor = 6364136223846793005L;
        long inverse = factor;
        for (int times = 0; times < 6; times++) {
            inverse *= 2 - factor * inverse;
        }
        return (((long) r << 33) - 1442695040888963407L) * inverse;
    }

    private void drawn(String what, int r, int due, RustRails game) {
        edges.answers(what, due, game, it -> it.simulate(seedFor(r), 1));
    }

    private void draws() {
        edges.promise(27, "let i be r / 8 % 4.", "If r % 8 is 0, company i buys a train of the level 1 + r / 32 % 6;",
                "if it is 1, and there are tracks, it buys track r / 32 % (number of tracks);",
                "if it is 2, and there are contracts, it takes contract r / 32 % (number of contracts);");
        for (int i = 0; i <= 3; i++) {
            for (int choice = 0; choice <= 24; choice++) {
                drawnTrain(i, choice);
                drawnTrack(i, choice);
                drawnContract(i, choice);
            }
        }
        for (int choice = 0; choice <= 3; choice++) {
            RustRails track = Checks.gameOf("R2t012c01999");
            track.buyTrain(0, 1);
            track.take(0, 0);
            track.setRent(3, 9);
            drawn("nothing, and a run for 2", 7 + 32 * choice, 10000 + 80 - 2 + 99 - 1 + 10, track);
            drawn("the only track, and a run for 0", 1 + 32 * choice, 10000 + 80 - 6 + 99 - 2 + 10 + 6, track);
            drawn("the only track by company 3, and a run for 18", 1 + 24 + 32 * choice, 10000 + 80 - 18 + 99 - 1 + 10, track);
            RustRails contract = Checks.gameOf("R2t011c01999");
            contract.buyTrain(2, 1);
            drawn("the only contract", 2 + 16 + 32 * choice, 10000 + 80 - 1 + 99 - 1 + 10, contract);
        }
        int greatest = Integer.MAX_VALUE;
        for (int kind = 0; kind <= 7; kind++) {
            int r = greatest - 7 + kind;
            edges.answers("the greatest r, less " + (7 - kind), byHand(RustRails::new, seedFor(r), 1), new RustRails(),
                    it -> it.simulate(seedFor(r), 1));
        }
    }

    /** In phase 4 all companies have 300 coins or more; level 3, 4 or 5 is bought. */
    private void drawnTrain(int i, int choice) {
        int level = 1 + choice % 6;
        RustRails game = Games.rich(4);
        RustRails played = Games.rich(4);
        Edges.outcome(played, it -> it.buyTrain(i, level));
        runAll(played);
        played.endRound();
        drawn("company " + i + " buys level " + level, 8 * i + 32 * choice, worthAndPhase(played), game);
    }

    private void drawnTrack(int i, int choice) {
        Edges.Recipe recipe = () -> {
            RustRails game = Checks.gameOf("R2t019t018t017t016t015");
            game.buyTrack(0, 3);
            for (int company = 0; company <= 3; company++) {
                game.buyTrain(company, 2);
                game.buyTrain(company, company == i ? 1 : 2);
            }
            return game;
        };
        RustRails played = recipe.game();
        Edges.outcome(played, it -> it.buyTrack(i, choice % 5));
        played.endRound();
        drawn("company " + i + " buys track " + choice % 5, 1 + 8 * i + 32 * choice, worthAndPhase(played), recipe.game());
    }

    private void drawnContract(int i, int choice) {
        Edges.Recipe recipe = () -> {
            RustRails game = Checks.gameOf("R2t011c01109c01209c01309");
            for (int company = 0; company <= 3; company++) {
                game.buyTrain(company, 1);
            }
            game.take(3, 1);
            return game;
        };
        RustRails played = recipe.game();
        Edges.outcome(played, it -> it.take(i, choice % 3));
        runAll(played);
        played.endRound();
        drawn("company " + i + " takes contract " + choice % 3, 2 + 8 * i + 32 * choice, worthAndPhase(played),
                recipe.game());
    }

    private void drawsThatDoNothing() {
        edges.promise(27, "if it is 1, and there are tracks, it buys track r / 32 % (number of tracks);",
                "if it is 2, and there are contracts, it takes contract r / 32 % (number of contracts);",
                "each of these only if the method with this effect would not throw an exception.");
        for (int i = 0; i <= 3; i++) {
            for (int choice = 0; choice <= 18; choice++) {
                int r = 8 * i + 32 * choice;
                drawn("no tracks", r + 1, 10100, Checks.gameOf("R2"));
                drawn("no contracts", r + 2, 10100, Checks.gameOf("R2t011"));
                for (int kind = 3; kind <= 7; kind++) {
                    drawn("kind " + kind, r + kind, 10100, Checks.gameOf("R2t011c01995"));
                }
                drawn("a level that is refused", 8 * i + 32 * 2, 10100, new RustRails());
                drawn("a track that is owned", 8 * i + 32 * choice + 1, 10099, owned());
                drawn("a contract that is held", 8 * i + 32 * choice + 2, 10095, held());
            }
        }
    }

    /** Each company has a track of the length 1: then it is worth 100. */
    private static RustRails owned() {
        RustRails game = Checks.gameOf("R2t011t011t011t011");
        for (int i = 0; i <= 3; i++) {
            game.buyTrack(i, i);
        }
        return game;
    }

    /** Each company holds a contract without a train. */
    private static RustRails held() {
        RustRails game = Checks.gameOf("R2c01995c01995c01995c01995");
        for (int i = 0; i <= 3; i++) {
            game.take(i, i);
        }
        return game;
    }

    private void firstTrainThatCan() {
        edges.promise(27, "Then, for each contract, ascending, its holder makes a run with its first train for which whyNot() "
                + "is 0, if there is one.", "Then the round is ended.");
        Edges.Recipe recipe = () -> {
            RustRails game = Checks.gameOf("R4t014t121c02505c01405c12305c03995");
            game.buyTrain(0, 1);
            game.buyTrain(0, 2);
            for (int k = 0; k < 4; k++) {
                game.take(0, k);
            }
            return game;
        };
        // contract 0 needs the train of level 2, contract 1 gets the first one, 2 and 3 get none:
        // 40 - 5 + 50 - 4 + 40 - 10 for fines - 3 for upkeep, and 30 for the trains
        drawn("the first that can", 7, 20000 + 138, recipe.game());
        RustRails four = Checks.gameOf("R2t011" + "c01505".repeat(5));
        for (int j = 0; j < 4; j++) {
            four.buyTrain(0, 1);
        }
        for (int k = 0; k < 5; k++) {
            four.take(0, k);
        }
        drawn("four trains for five contracts", 7, 10000 + 20 + 4 * 49 - 5 - 4 + 40, four);
        RustRails ran = recipe.game();
        ran.run(2, 1);
        // contract 2 was run for 1 with the train of level 2: 0 finds none that reaches so far, 1 gets the other one
        drawn("one ran before", 7, 20000 + 40 + 30 - 1 + 40 - 4 - 10 - 3 + 30, ran);
    }

    private void seeds() {
        edges.promise(27, "`seed`: any long", "A long x starts as the seed.",
                "Each round first replaces x by x * 6364136223846793005L + 1442695040888963407L "
                + "(with long overflow), and r = (int) (x >>> 33) is computed;");
        long[] seeds = {0, 1, -1, 2, -2, Long.MAX_VALUE, Long.MIN_VALUE, Long.MAX_VALUE - 1, Long.MIN_VALUE + 1,
            Integer.MAX_VALUE, Integer.MIN_VALUE, 1L << 33, (1L << 33) - 1, 1L << 62, -(1L << 62)};
        for (long seed : seeds) {
            for (int m = 1; m <= 8; m++) {
                int rounds = m;
                for (Edges.Recipe recipe : new Edges.Recipe[] {RustRails::new, Games::young, Games::old}) {
                    edges.answers("seed " + seed + ", " + m + " rounds", byHand(recipe, seed, rounds), recipe.game(),
                            it -> it.simulate(seed, rounds));
                }
            }
        }
    }

    private void manyRounds() {
        edges.promise(27, "`m`: number of rounds, 1 to 50", "Each round first replaces x by x * 6364136223846793005L + "
                + "1442695040888963407L (with long overflow), and r = (int) (x >>> 33) is computed;");
        Edges.Recipe[] recipes = {RustRails::new, () -> Checks.gameOf("R2"), () -> Checks.gameOf("R3t012t123c02305")};
        for (long seed = -40; seed <= 40; seed++) {
            long told = seed * 1234567890123456789L;
            for (int m : new int[] {49, 50}) {
                for (Edges.Recipe recipe : recipes) {
                    edges.answers("seed " + told + ", " + m + " rounds", byHand(recipe, told, m), recipe.game(),
                            it -> it.simulate(told, m));
                }
            }
        }
    }

    private void greatestWorth() {
        edges.promise(27, "Returns the greatest worth() of a company at the end, plus 10000 * (the phase).");
        for (int i = 0; i <= 3; i++) {
            RustRails game = Checks.gameOf("R2t011c01999");
            game.buyTrain(i, 1);
            game.take(i, 0);
            drawn("company " + i, 7, 10000 + 80 - 1 + 99 - 1 + 10, game);
        }
        for (int phase = 1; phase <= 6; phase++) {
            RustRails game = Games.rich(phase);
            RustRails played = Games.rich(phase);
            runAll(played);
            played.endRound();
            drawn("phase " + phase, 7, worthAndPhase(played), game);
        }
        RustRails poor = new RustRails();
        for (int i = 0; i <= 3; i++) {
            poor.buyTrain(i, 2);
            poor.buyTrain(i, 2);
            poor.buyTrain(i, 1);
        }
        drawn("all are bankrupt", 7, 20000, poor);
    }

    // ---- the same by calls of the face, few enough for one object

    private static int byHand(Edges.Recipe recipe, long seed, int m) {
        RustRails game = recipe.game();
        BigInteger x = BigInteger.valueOf(seed);
        BigInteger all = BigInteger.ONE.shiftLeft(64);
        for (int round = 0; round < m; round++) {
            x = x.multiply(BigInteger.valueOf(6364136223846793005L)).add(BigInteger.valueOf(1442695040888963407L)).mod(all);
            int r = x.shiftRight(33).intValueExact();
            deal(game, r);
            runAll(game);
            game.endRound();
        }
        return worthAndPhase(game);
    }

    private static void deal(RustRails game, int r) {
        int i = r / 8 % 4;
        int choice = r / 32;
        if (r % 8 == 0) {
            Edges.outcome(game, it -> it.buyTrain(i, 1 + choice % 6));
        }
        if (r % 8 == 1 && game.about(1) > 0) {
            Edges.outcome(game, it -> it.buyTrack(i, choice % it.about(1)));
        }
        if (r % 8 == 2 && game.about(2) > 0) {
            Edges.outcome(game, it -> it.take(i, choice % it.about(2)));
        }
    }

    private static void runAll(RustRails game) {
        int contracts = game.about(2);
        for (int k = 0; k < contracts; k++) {
            int holder = game.contract(k, 4);
            int trains = holder == NONE ? 0 : game.company(holder, 2);
            boolean done = false;
            for (int j = 0; j < trains && !done; j++) {
                done = game.whyNot(k, j) == 0 && game.run(k, j) >= 0;
            }
        }
    }

    private static int worthAndPhase(RustRails game) {
        int greatest = game.worth(0);
        for (int i = 1; i <= 3; i++) {
            greatest = Math.max(greatest, game.worth(i));
        }
        return greatest + 10000 * game.about(3);
    }
}
