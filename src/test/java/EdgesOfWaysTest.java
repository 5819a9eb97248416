/** The edges of promises 19 to 21, and of what the document says of ways. */
final class EdgesOfWaysTest {
    private static final int NONE = Edges.NONE;
    private static final String PART = "WAYS AND RUNS";
    private static final String ORDER = "the one with the least cost, then the one with the least length, then, track by "
            + "track from the first one on, the one with the smallest number of the track.";

    private final Edges edges;

    private EdgesOfWaysTest(Edges edges) {
        this.edges = edges;
    }

    public static void main(String[] args) {
        Edges.test(EdgesOfWaysTest::all);
    }

    static void all(Edges edges) {
        EdgesOfWaysTest test = new EdgesOfWaysTest(edges);
        test.numbers();
        test.reaches();
        test.rowsOfTracks();
        test.costs();
        test.leastCost();
        test.costBeforeLength();
        test.leastLength();
        test.smallestFirstTrack();
        test.smallestLaterTrack();
        test.noSuchWay();
        test.reasons();
        test.reasonsInOrder();
        test.trainsOfTheHolder();
        test.levels();
        test.levelsOfAnyContract();
        test.nothingChanges();
    }

    /** Cost, length, number of tracks and first track. */
    private void way(String what, RustRails game, int i, int a, int b, int reach, int... due) {
        for (int number = 0; number <= 3; number++) {
            int wanted = number;
            int answer = due.length == 1 ? due[0] : due[number];
            edges.answers(what + " " + number, answer, game, it -> it.way(i, a, b, reach, wanted));
        }
    }

    // ---- promise 19

    private void numbers() {
        edges.promise(19, "`what`: 0: its cost; 1: its length; 2: the number of its tracks; 3: its first track",
                "Throws `IllegalArgumentException` if a and b are the same, or reach or what is out of range",
                "Throws `IndexOutOfBoundsException` if there is no such company or city", "`a`: city", "`b`: another city",
                "`reach`: 1 to 24");
        Edges.Recipe recipe = () -> {
            RustRails game = Checks.gameOf("R9t679t019t873t786t012t011");
            game.buyTrack(2, 2);
            game.setRent(2, 4);
            return game;
        };
        way("the first city", recipe.game(), 0, 0, 1, 24, 1, 1, 1, 5);
        way("the last city", recipe.game(), 0, 8, 7, 24, 6, 6, 1, 3);
        way("two tracks", recipe.game(), 0, 8, 6, 24, 15, 15, 2, 3);
        way("two tracks back", recipe.game(), 0, 6, 8, 24, 15, 15, 2, 0);
        way("with its own one", recipe.game(), 2, 8, 6, 24, 9, 12, 2, 2);
        for (int what : new int[] {-1, 4}) {
            edges.refuses("what " + what, Edges.OUT_OF_RANGE, recipe, game -> game.way(0, 0, 1, 24, what));
            edges.refuses("what " + what + " where there is no way", Edges.OUT_OF_RANGE, recipe,
                    game -> game.way(0, 0, 8, 24, what));
        }
        for (int reach : new int[] {0, 25}) {
            edges.refuses("reach " + reach, Edges.OUT_OF_RANGE, recipe, game -> game.way(0, 0, 1, reach, 0));
            edges.refuses("reach " + reach + " where there is no way", Edges.OUT_OF_RANGE, recipe,
                    game -> game.way(0, 0, 8, reach, 0));
        }
        edges.refuses("no city, and reach 0", Edges.NO_SUCH, recipe, game -> game.way(0, 0, 9, 0, 0));
        edges.refuses("no company, and the same cities", Edges.NO_SUCH, recipe, game -> game.way(4, 1, 1, 1, 0));
        edges.refuses("the same cities", Edges.OUT_OF_RANGE, recipe, game -> game.way(0, 8, 8, 24, 0));
    }

    /** A chain of this length from city 0 on over one, two or three tracks; n is 4. */
    private static String chain(int length, int tracks) {
        StringBuilder text = new StringBuilder();
        int left = length;
        for (int t = 0; t < tracks; t++) {
            int size = Math.min(9, left - (tracks - 1 - t));
            text.append("t").append(t).append(t + 1).append(size);
            left -= size;
        }
        return text.toString();
    }

    private void reaches() {
        edges.promise(19, "`reach`: 1 to 24", "Returns that number; NONE if there is no such way.");
        edges.terms(PART, "The way of a company with a reach is, among the ways whose lengths add up to at most the reach,");
        for (int tracks = 1; tracks <= 3; tracks++) {
            for (int size = tracks; size <= Math.min(27, 9 * tracks); size++) {
                RustRails game = Checks.gameOf("R4" + chain(size, tracks));
                for (int reach = 1; reach <= 24; reach++) {
                    String what = tracks + " tracks of length " + size + " with a reach of " + reach;
                    if (reach < size) {
                        way(what, game, 3, 0, tracks, reach, NONE);
                        way(what + " back", game, 0, tracks, 0, reach, NONE);
                    } else {
                        way(what, game, 3, 0, tracks, reach, size, size, tracks, 0);
                        way(what + " back", game, 0, tracks, 0, reach, size, size, tracks, tracks - 1);
                    }
                }
            }
        }
        RustRails longest = Checks.gameOf("R9t011t121t231t341t451t561t671t781");
        way("as many tracks as there are cities but one", longest, 0, 0, 8, 8, 8, 8, 8, 0);
        way("one too far", longest, 0, 0, 8, 7, NONE);
        RustRails most = Checks.gameOf("R9t013t123t233t343t453t563t673t783");
        way("8 tracks of length 24", most, 0, 8, 0, 24, 24, 24, 8, 7);
        way("8 tracks of length 24, a reach of 23", most, 0, 8, 0, 23, NONE);
    }

    private void rowsOfTracks() {
        edges.terms(PART, "A way from a city to another one is a row of tracks, each of which begins where the one before ended.");
        RustRails game = Checks.gameOf("R9t013t233t453t563t786t128");
        way("over a track told backwards", Checks.gameOf("R3t102t213"), 0, 0, 2, 24, 5, 5, 2, 0);
        way("both told from the middle", Checks.gameOf("R3t102t123"), 0, 0, 2, 24, 5, 5, 2, 0);
        way("both told to the middle", Checks.gameOf("R3t012t213"), 0, 2, 0, 24, 5, 5, 2, 1);
        way("tracks out of order", game, 0, 0, 3, 24, 14, 14, 3, 0);
        way("tracks out of order, back", game, 0, 3, 0, 24, 14, 14, 3, 1);
        way("a gap", game, 0, 3, 4, 24, NONE);
        way("another part of the land", game, 0, 0, 8, 24, NONE);
        way("a dead end", Checks.gameOf("R4t011t021"), 0, 1, 3, 24, NONE);
        way("no tracks", Checks.gameOf("R2"), 0, 0, 1, 24, NONE);
    }

    private void costs() {
        edges.terms(PART, "For a company, a way costs the sum of length * rent over its tracks: the rent of the owner, 0 for "
                + "its own tracks.");
        for (int rent = 0; rent <= 9; rent++) {
            RustRails game = Checks.gameOf("R3t013t124");
            game.buyTrack(1, 0);
            game.setRent(1, rent);
            way("rent " + rent, game, 0, 0, 1, 24, 3 * rent, 3, 1, 0);
            way("rent " + rent + " and the bank", game, 0, 0, 2, 24, 3 * rent + 4, 7, 2, 0);
            way("its own, whatever its rent", game, 1, 0, 1, 24, 0, 3, 1, 0);
            way("its own and the bank's", game, 1, 0, 2, 24, 4, 7, 2, 0);
            game.buyTrack(2, 1);
            game.setRent(2, 9 - rent);
            way("two owners", game, 3, 0, 2, 24, 3 * rent + 4 * (9 - rent), 7, 2, 0);
            way("of the first one", game, 1, 0, 2, 24, 4 * (9 - rent), 7, 2, 0);
            way("of the second one", game, 2, 0, 2, 24, 3 * rent, 7, 2, 0);
        }
        RustRails dear = Checks.gameOf("R4t018t128t238");
        dear.buyTrack(0, 0);
        dear.buyTrack(0, 1);
        dear.buyTrack(0, 2);
        dear.setRent(0, 9);
        way("the dearest of all", dear, 1, 0, 3, 24, 216, 24, 3, 0);
        way("for the owner", dear, 0, 0, 3, 24, 0, 24, 3, 0);
    }

    // ---- which one of several ways

    private void leastCost() {
        edges.terms(PART, ORDER);
        RustRails game = Checks.gameOf("R3t015t014t016t029");
        way("the cheapest of three", game, 0, 0, 1, 24, 4, 4, 1, 1);
        way("back", game, 0, 1, 0, 24, 4, 4, 1, 1);
        way("by one cheaper than the direct one", Checks.gameOf("R3t027t013t123"), 0, 0, 2, 24, 6, 6, 2, 1);
        way("by one dearer than the direct one", Checks.gameOf("R3t026t013t124"), 0, 0, 2, 24, 6, 6, 1, 0);
        way("by four tracks", Checks.gameOf("R5t049t011t121t231t341"), 0, 0, 4, 24, 4, 4, 4, 1);
        way("by four tracks out of reach", Checks.gameOf("R5t043t011t121t231t341"), 0, 0, 4, 3, 3, 3, 1, 0);
    }

    /** Company 1 owns track 0, which is the longer one, and asks for no rent. */
    private void costBeforeLength() {
        edges.terms(PART, ORDER, "The way of a company with a reach is, among the ways whose lengths add up to at most the reach,");
        RustRails game = Checks.gameOf("R3t019t011t023t121");
        game.buyTrack(1, 0);
        game.setRent(1, 0);
        way("the longer one for less", game, 0, 0, 1, 24, 0, 9, 1, 0);
        way("the longer one just within the reach", game, 0, 0, 1, 9, 0, 9, 1, 0);
        way("the longer one is out of reach", game, 0, 0, 1, 8, 1, 1, 1, 1);
        way("a detour for less", game, 0, 0, 2, 24, 1, 10, 2, 0);
        way("a detour just within the reach", game, 0, 0, 2, 10, 1, 10, 2, 0);
        way("a detour out of reach", game, 0, 0, 2, 9, 2, 2, 2, 1);
        way("the shortest only", game, 0, 0, 2, 2, 2, 2, 2, 1);
        way("none", game, 0, 0, 2, 1, NONE);
        game.setRent(1, 1);
        way("for more", game, 0, 0, 1, 24, 1, 1, 1, 1);
    }

    private void leastLength() {
        edges.terms(PART, ORDER);
        RustRails game = Checks.gameOf("R3t019t018t015t124t026t128");
        for (int t = 0; t < 3; t++) {
            game.buyTrack(1, t);
        }
        game.setRent(1, 0);
        way("the shortest of three for the same", game, 0, 0, 1, 24, 0, 5, 1, 2);
        way("the shortest of them is first", game, 0, 0, 2, 24, 4, 9, 2, 2);
        RustRails own = Checks.gameOf("R3t027t014t122");
        for (int t = 0; t < 3; t++) {
            own.buyTrack(0, t);
        }
        way("its own tracks by length", own, 0, 0, 2, 24, 0, 6, 2, 1);
        RustRails direct = Checks.gameOf("R3t014t122t026");
        way("two of the same length: the smaller number", direct, 0, 0, 2, 24, 6, 6, 2, 0);
        RustRails later = Checks.gameOf("R3t026t014t122");
        way("two of the same length: the smaller number", later, 0, 0, 2, 24, 6, 6, 1, 0);
        RustRails rent = Checks.gameOf("R2t012t014");
        rent.buyTrack(1, 0);
        rent.setRent(1, 2);
        way("for the same the shorter one", rent, 0, 0, 1, 24, 4, 2, 1, 0);
        RustRails other = Checks.gameOf("R2t014t012");
        other.buyTrack(1, 1);
        other.setRent(1, 2);
        way("for the same the shorter one, though its number is greater", other, 0, 0, 1, 24, 4, 2, 1, 1);
        way("unless it is out of reach", other, 0, 0, 1, 2, 4, 2, 1, 1);
    }

    private void smallestFirstTrack() {
        edges.terms(PART, ORDER);
        way("of two", Checks.gameOf("R2t013t013"), 0, 0, 1, 24, 3, 3, 1, 0);
        way("of two, told the other way round", Checks.gameOf("R2t103t013"), 0, 0, 1, 24, 3, 3, 1, 0);
        way("of 16", Checks.gameOf("R2" + "t014".repeat(15) + "t013"), 0, 0, 1, 24, 3, 3, 1, 15);
        way("of 16", Checks.gameOf("R2" + "t013".repeat(16)), 0, 1, 0, 24, 3, 3, 1, 0);
        way("the first track, though the second one is greater", Checks.gameOf("R4t012t021t231t132"), 0, 0, 3, 24,
                2, 2, 2, 1);
        way("0 and 3, not 1 and 2", Checks.gameOf("R4t011t021t231t131"), 0, 0, 3, 24, 2, 2, 2, 0);
        way("1 and 2, not 3 and 0", Checks.gameOf("R4t131t021t231t011"), 0, 0, 3, 24, 2, 2, 2, 1);
    }

    /** Who gets the rents tells which tracks a run goes over: company 1 owns the odd ones, company 2 the even ones. */
    private void smallestLaterTrack() {
        edges.terms(PART, ORDER);
        gets("tracks 0 and 1, not 2", "R3t011t121t121c02995", 1, 1);
        gets("tracks 0, 2, 4, not 1, 3, 5", "R4t011t011t121t121t231t231c03995", 0, 3);
        gets("tracks 0, 2, 4 back", "R4t011t011t121t121t231t231c30995", 0, 3);
        gets("1, then 0, not 3", "R3t121t011t012t121c02995", 1, 1);
        gets("0 and 4, not 1 and 2", "R5t011t021t241t031t141t341c04995", 0, 2);
        gets("0, then 4, not 3, which is longer", "R5t011t232t122t132t131c03995", 0, 2);
        gets("0, then 2, not 1, which is longer", "R3t011t122t121c02995", 0, 2);
    }

    private void gets(String what, String text, int odd, int even) {
        RustRails game = Checks.gameOf(text);
        for (int t = 0; t < game.about(1); t++) {
            game.buyTrack(t % 2 == 1 ? 1 : 2, t);
        }
        game.buyTrain(0, 1);
        game.take(0, 0);
        edges.answers(what, odd + even, game, it -> it.run(0, 0));
        edges.answers(what + ": rents of the odd ones", odd, game, it -> it.company(1, 5));
        edges.answers(what + ": rents of the even ones", even, game, it -> it.company(2, 5));
    }

    private void noSuchWay() {
        edges.promise(19, "Returns that number; NONE if there is no such way.");
        edges.terms("The constants", "`NONE = -9`: There is no such result.");
        edges.answers("NONE", -9, new RustRails(), game -> RustRails.NONE);
        RustRails game = new RustRails();
        for (int what = 0; what <= 3; what++) {
            int number = what;
            edges.answers("farther than the reach", -9, game, it -> it.way(0, 0, 2, 3, number));
        }
        edges.answers("as far as the reach", 4, game, it -> it.way(0, 0, 2, 4, 0));
    }

    // ---- promise 20

    private void reasons() {
        edges.promise(20, "Returns the first reason that applies: 1: it has no holder; 2: it was run in this round; 3: the train "
                + "ran in this round; 4: there is no way with the reach of the train; otherwise 0.");
        RustRails game = Checks.gameOf("R4t014t121c01505c02505c03505");
        edges.answers("no holder", 1, game, it -> it.whyNot(0, 0));
        game.take(2, 0);
        game.take(2, 1);
        game.take(2, 2);
        game.buyTrain(2, 1);
        edges.answers("as far as the reach", 0, game, it -> it.whyNot(0, 0));
        edges.answers("farther by 1", 4, game, it -> it.whyNot(1, 0));
        edges.answers("no way at all", 4, game, it -> it.whyNot(2, 0));
        game.buyTrain(2, 2);
        edges.answers("not farther for level 2", 0, game, it -> it.whyNot(1, 1));
        edges.answers("no way at all", 4, game, it -> it.whyNot(2, 1));
        game.run(0, 1);
        edges.answers("it was run", 2, game, it -> it.whyNot(0, 0));
        edges.answers("the train ran", 3, game, it -> it.whyNot(1, 1));
        edges.answers("the train did not run", 4, game, it -> it.whyNot(1, 0));
        game.endRound();
        edges.answers("in the next round", 0, game, it -> it.whyNot(0, 0));
        edges.answers("in the next round", 0, game, it -> it.whyNot(1, 1));
    }

    private void reasonsInOrder() {
        edges.promise(20, "Returns the first reason that applies: 1: it has no holder; 2: it was run in this round; 3: the train "
                + "ran in this round; 4: there is no way with the reach of the train; otherwise 0.");
        Edges.Recipe recipe = () -> {
            RustRails game = Checks.gameOf("R4t011c01505c03505c03505");
            game.buyTrain(0, 1);
            game.buyTrain(0, 1);
            game.take(0, 0);
            game.take(0, 1);
            game.run(0, 0);
            return game;
        };
        edges.onlyAnswers("1 before 3 and 4", 1, recipe, game -> game.whyNot(2, 0));
        edges.onlyAnswers("2 before 3", 2, recipe, game -> game.whyNot(0, 0));
        edges.onlyAnswers("2 alone", 2, recipe, game -> game.whyNot(0, 1));
        edges.onlyAnswers("3 before 4", 3, recipe, game -> game.whyNot(1, 0));
        edges.onlyAnswers("4 alone", 4, recipe, game -> game.whyNot(1, 1));
        RustRails bankrupt = recipe.game();
        bankrupt.buyTrain(0, 2);
        bankrupt.offer(0, 1, 1, 9);
        bankrupt.offer(0, 1, 1, 9);
        for (int k = 3; k <= 4; k++) {
            bankrupt.take(0, k);
        }
        while (bankrupt.company(0, 6) == 0) {
            bankrupt.endRound();
        }
        edges.answers("no holder after a bankruptcy", 1, bankrupt, it -> it.whyNot(0, 0));
    }

    private void trainsOfTheHolder() {
        edges.promise(20, "`k`: contract", "`j`: train of its holder",
                "Throws `IndexOutOfBoundsException` if there is no such contract, or it has a holder that has no such train");
        Edges.Recipe recipe = () -> {
            RustRails game = Checks.gameOf("R3t011c01505c01505c01505");
            game.buyTrain(0, 1);
            game.buyTrain(2, 1);
            game.take(0, 0);
            game.take(1, 1);
            return game;
        };
        edges.onlyAnswers("the only train", 0, recipe, game -> game.whyNot(0, 0));
        for (int j : new int[] {-1, 1, 4}) {
            edges.refuses("train " + j + " of one", Edges.NO_SUCH, recipe, game -> game.whyNot(0, j));
            edges.refuses("train " + j + " of none", Edges.NO_SUCH, recipe, game -> game.whyNot(1, j));
        }
        edges.refuses("train 0 of none", Edges.NO_SUCH, recipe, game -> game.whyNot(1, 0));
        for (int j : new int[] {Integer.MIN_VALUE, NONE, -1, 0, 1, 4, Integer.MAX_VALUE}) {
            edges.onlyAnswers("without a holder, train " + j, 1, recipe, game -> game.whyNot(2, j));
        }
        edges.refuses("contract 3", Edges.NO_SUCH, recipe, game -> game.whyNot(3, 0));
        edges.refuses("contract -1", Edges.NO_SUCH, recipe, game -> game.whyNot(-1, 0));
        edges.refuses("of none", Edges.NO_SUCH, RustRails::new, game -> game.whyNot(0, 0));
        edges.refuses("train 4 of four, though it was run", Edges.NO_SUCH, Games::closed, game -> game.whyNot(0, 4));
        edges.onlyAnswers("train 3 of four", 2, Games::closed, game -> game.whyNot(0, 3));
    }

    // ---- promise 21

    private void levels() {
        edges.promise(21, "Returns the smallest level, 1 to 6, of a train with whose reach there is a way of this company for the "
                + "contract; NONE if there is none.");
        for (int size = 1; size <= 27; size++) {
            int tracks = size <= 2 ? 1 : 3;
            int level = (size + 3) / 4;
            RustRails game = Checks.gameOf("R5" + chain(size, tracks) + "c0" + tracks + "505" + "c" + tracks + "0505" + "c04505");
            for (int i = 0; i <= 3; i++) {
                int company = i;
                int due = size <= 24 ? level : NONE;
                edges.answers("length " + size, due, game, it -> it.levelFor(company, 0));
                edges.answers("length " + size + " back", due, game, it -> it.levelFor(company, 1));
                edges.answers("no way", NONE, game, it -> it.levelFor(company, 2));
            }
        }
        edges.promise(21, "Throws `IndexOutOfBoundsException` if there is no such company or contract", "`k`: contract");
        for (Edges.Recipe recipe : new Edges.Recipe[] {Games::young, Games::closed}) {
            int contracts = recipe.game().about(2);
            edges.refuses("company 4", Edges.NO_SUCH, recipe, game -> game.levelFor(4, 0));
            edges.refuses("company -1", Edges.NO_SUCH, recipe, game -> game.levelFor(-1, 0));
            edges.refuses("behind the last contract", Edges.NO_SUCH, recipe, game -> game.levelFor(0, contracts));
            edges.refuses("contract -1", Edges.NO_SUCH, recipe, game -> game.levelFor(0, -1));
        }
        edges.refuses("of none", Edges.NO_SUCH, RustRails::new, game -> game.levelFor(0, 0));
    }

    private void levelsOfAnyContract() {
        edges.promise(21, "Tells the smallest level with which a contract could be served.");
        Edges.Recipe recipe = () -> {
            RustRails game = Checks.gameOf("R3t019t123c01505c02505c12505");
            game.buyTrack(1, 0);
            game.setRent(1, 9);
            game.buyTrain(0, 1);
            game.take(0, 0);
            game.take(0, 2);
            game.run(2, 0);
            return game;
        };
        for (int i = 0; i <= 3; i++) {
            int company = i;
            edges.onlyAnswers("held", 3, recipe, game -> game.levelFor(company, 0));
            edges.onlyAnswers("without a holder, as far as level 3 goes", 3, recipe, game -> game.levelFor(company, 1));
            edges.onlyAnswers("run", 1, recipe, game -> game.levelFor(company, 2));
        }
        Edges.Recipe offered = () -> {
            RustRails game = new RustRails();
            game.offer(2, 0, 1, 1);
            return game;
        };
        edges.onlyAnswers("one that was offered", 1, offered, game -> game.levelFor(3, 0));
        edges.refuses("one behind it", Edges.NO_SUCH, offered, game -> game.levelFor(3, 1));
    }

    private void nothingChanges() {
        edges.terms("Ahead", "---- ways; these and all following methods up to the save slots change nothing.");
        for (Edges.Recipe recipe : new Edges.Recipe[] {Games::young, Games::old, Games::closed}) {
            RustRails game = recipe.game();
            edges.onlyAnswers("way", game.way(1, 0, 2, 24, 0), recipe, it -> it.way(1, 0, 2, 24, 0));
            edges.onlyAnswers("whyNot", game.whyNot(0, 0), recipe, it -> it.whyNot(0, 0));
            edges.onlyAnswers("levelFor", game.levelFor(0, 1), recipe, it -> it.levelFor(0, 1));
            edges.onlyAnswers("bestContract", game.bestContract(0), recipe, it -> it.bestContract(0));
            edges.onlyAnswers("coinsAfter", game.coinsAfter(3, 50), recipe, it -> it.coinsAfter(3, 50));
            edges.onlyAnswers("bankruptAfter", game.bankruptAfter(3), recipe, it -> it.bankruptAfter(3));
            edges.onlyAnswers("worth", game.worth(3), recipe, it -> it.worth(3));
            edges.onlyAnswers("runScript", 1, recipe, it -> it.runScript(2, 6000000000L));
            edges.onlyAnswers("runScript", NONE, recipe, it -> it.runScript(3, 300096000060000L));
            edges.onlyAnswers("simulate", game.simulate(5, 50), recipe, it -> it.simulate(5, 50));
        }
    }
}
