/** The edges of promises 1 to 5, and of what the document says of texts, of cities and of tracks. */
final class EdgesOfTextTest {
    private static final int NONE = Edges.NONE;
    private static final int FULL = 100;
    // 2 + 14 * 4 + 7 * 6 = 100: the only numbers of parts that fill the text with a game
    private static final String LONGEST_GAME = "R2" + "t011".repeat(14) + "c01995".repeat(7);

    private final Edges edges;

    private EdgesOfTextTest(Edges edges) {
        this.edges = edges;
    }

    public static void main(String[] args) {
        Edges.test(EdgesOfTextTest::all);
    }

    static void all(Edges edges) {
        EdgesOfTextTest test = new EdgesOfTextTest(edges);
        test.newObject();
        test.appending();
        test.fullText();
        test.clearing();
        test.beginnings();
        test.nextCharacters();
        test.blanks();
        test.tooManyParts();
        test.endsTooSoon();
        test.firstErrorOfSeveral();
        test.textsOfFullLength();
        test.loading();
        test.loadingNoGame();
        test.cities();
        test.tracks();
        test.contracts();
    }

    private static RustRails typed(String text) {
        RustRails game = new RustRails();
        Checks.type(game, text);
        return game;
    }

    private void errorAt(String text, int due) {
        edges.answers("error position of '" + text + "'", due, typed(text), RustRails::errorPosition);
    }

    // ---- promise 1

    private void newObject() {
        edges.promise(1, "Creates the game that is described above, without contracts.");
        edges.answers("contracts", 0, new RustRails(), game -> game.about(2));
        edges.refuses("contract 0", Edges.NO_SUCH, RustRails::new, game -> game.contract(0, 0));
        edges.refuses("nothing is remembered", Edges.NOT_NOW, RustRails::new, RustRails::undo);
        edges.refuses("slot 0 is empty", Edges.NOT_NOW, RustRails::new, game -> game.restore(0));
        edges.refuses("slot 1 is empty", Edges.NOT_NOW, RustRails::new, game -> game.restore(1));
        edges.answers("the text is empty", 0, new RustRails(), RustRails::clearText);
        edges.terms("CITIES AND TRACKS", "A new object has 3 cities and 2 tracks, from city 0 to city 1 and from city 1 "
                + "to city 2, of the length 2 each.");
        edges.same("the whole", Checks.picture(new RustRails()),
                "3 2 0 1 0 -400 0 0 0 0 0 | 0,1,2,-9 1,2,2,-9 "
                + "| 100 1 0 0 0 0 0 | 100 1 0 0 0 0 0 | 100 1 0 0 0 0 0 | 100 1 0 0 0 0 0 | ");
        edges.refuses("track 2", Edges.NO_SUCH, RustRails::new, game -> game.track(2, 0));
        edges.refuses("track -1", Edges.NO_SUCH, RustRails::new, game -> game.track(-1, 0));
        edges.answers("to the last city", 4, new RustRails(), game -> game.way(0, 0, 2, 24, 1));
        edges.refuses("city 3", Edges.NO_SUCH, RustRails::new, game -> game.way(0, 0, 3, 24, 1));
        edges.refuses("city 3 of a contract", Edges.NO_SUCH, RustRails::new, game -> game.offer(3, 0, 1, 1));
    }

    // ---- promises 2 and 3

    private void appending() {
        edges.promise(2, "`c`: character code, 0 to 255", "Returns the new length of the text.");
        RustRails game = new RustRails();
        for (int c = 0; c <= 255; c++) {
            int sign = c;
            edges.answers("append(" + c + ")", c % FULL + 1, game, it -> it.append(sign));
            if ((c + 1) % FULL == 0) {
                game.clearText();
            }
        }
        edges.promise(2, "Throws `IllegalArgumentException` if c is out of range");
        edges.refuses("append(-1)", Edges.OUT_OF_RANGE, RustRails::new, it -> it.append(-1));
        edges.refuses("append(256)", Edges.OUT_OF_RANGE, RustRails::new, it -> it.append(256));
        edges.refuses("'R' + 256", Edges.OUT_OF_RANGE, RustRails::new, it -> it.append('R' + 256));
        edges.refuses("'R' - 256", Edges.OUT_OF_RANGE, RustRails::new, it -> it.append('R' - 256));
    }

    private void fullText() {
        Edges.Recipe nearlyFull = () -> typed(LONGEST_GAME.substring(0, FULL - 1));
        Edges.Recipe full = () -> typed(LONGEST_GAME);
        edges.promise(2, "Throws `IllegalStateException` if the text already has 100 characters");
        edges.answers("the character before the last", FULL - 1, typed("R".repeat(FULL - 2)), game -> game.append('R'));
        edges.answers("the last character", FULL, nearlyFull.game(), game -> game.append('5'));
        edges.refuses("one more", Edges.NOT_NOW, full, game -> game.append('5'));
        edges.refuses("one more, 0", Edges.NOT_NOW, full, game -> game.append(0));
        edges.refuses("one more, 255", Edges.NOT_NOW, full, game -> game.append(255));
        edges.refuses("out of range comes first", Edges.OUT_OF_RANGE, full, game -> game.append(256));
        edges.refuses("out of range comes first", Edges.OUT_OF_RANGE, full, game -> game.append(-1));
        RustRails game = full.game();
        game.clearText();
        edges.answers("when it is empty again", 1, game, it -> it.append('R'));
        edges.terms("TEXT", "The object has a text buffer of at most 100 characters.");
        edges.answers("its length", FULL, full.game(), RustRails::clearText);
        edges.answers("the last one is there", NONE, full.game(), RustRails::errorPosition);
        edges.answers("without it", FULL - 1, nearlyFull.game(), RustRails::errorPosition);
    }

    private void clearing() {
        edges.promise(3, "Empties the text buffer.", "Returns the previous length of the text.");
        for (int length : new int[] {0, 1, 2, FULL - 1, FULL}) {
            String text = LONGEST_GAME.substring(0, length);
            edges.leads("clearText of " + length, length, () -> typed(text), RustRails::clearText, RustRails::new);
        }
        RustRails game = typed("R2t011");
        game.clearText();
        edges.answers("clearText again", 0, game, RustRails::clearText);
        Checks.type(game, "R3");
        edges.answers("nothing is left behind a shorter text", NONE, game, RustRails::errorPosition);
        edges.same("the state and the slots stay", withoutText(Edges.trace(Games::old, RustRails::clearText)),
                withoutText(Edges.trace(Games::old, it -> 0)));
    }

    private static String withoutText(String trace) {
        return trace.substring(0, trace.indexOf("\ntext"));
    }

    // ---- promise 4

    private void beginnings() {
        edges.promise(4, "Returns the error position of the text; NONE if it is a game.");
        errorAt("", 0);
        errorAt("R", 1);
        errorAt("R2", NONE);
        edges.onlyAnswers("checking an error", 9, Games::old, RustRails::errorPosition);
        edges.onlyAnswers("checking a game", NONE, Games::young, RustRails::errorPosition);
        edges.terms("TEXT", "A game is the letter R, the digit n (2 to 9), and then any number of parts, in any order:");
        next("", "R", false);
        next("R", "23456789", true);
        next("R2", "tc", false);
        next("R9", "tc", false);
        errorAt("R2t011c01015t011c01015", NONE);
        errorAt("R2c01015c01015t011t011", NONE);
        errorAt("R2R2", 2);
    }

    /** Each of the 256 characters behind a beginning: those that are allowed there, and no other one. */
    private void next(String beginning, String allowed, boolean isEndOfPart) {
        for (int c = 0; c <= 255; c++) {
            boolean fits = allowed.indexOf(c) >= 0;
            int behind = isEndOfPart ? NONE : beginning.length() + 1;
            errorAt(beginning + (char) c, fits ? behind : beginning.length());
        }
    }

    private void nextCharacters() {
        String digits = "0123456789";
        edges.terms("TEXT", "the letter t, the digits of two different cities and the digit of a length (1 to 9), at most 16;");
        next("R3t", "012", false);
        next("R9t", "012345678", false);
        next("R2t0", "1", false);
        next("R2t1", "0", false);
        next("R3t1", "02", false);
        next("R9t0", "12345678", false);
        next("R9t8", "01234567", false);
        next("R3t12", "123456789", true);
        next("R3t121", "tc", false);
        edges.terms("TEXT", "the letter c, the digits of two different cities, two digits for the pay (01 to 99) and the "
                + "digit of the rounds (1 to 9), at most 8.");
        next("R3c", "012", false);
        next("R9c", "012345678", false);
        next("R2c0", "1", false);
        next("R2c1", "0", false);
        next("R3c2", "01", false);
        next("R9c8", "01234567", false);
        next("R3c21", digits, false);
        next("R3c210", "123456789", false);
        next("R3c211", digits, false);
        next("R3c219", digits, false);
        next("R3c2101", "123456789", true);
        next("R3c2110", "123456789", true);
        next("R3c2199", "123456789", true);
        next("R3c21999", "tc", false);
    }

    private void blanks() {
        edges.terms("TEXT", "There are no blanks.");
        String text = "R3t012c02405";
        for (int place = 0; place <= text.length(); place++) {
            errorAt(text.substring(0, place) + " " + text.substring(place), place);
        }
    }

    private void tooManyParts() {
        String tracks = "t011";
        String contracts = "c01015";
        edges.terms("TEXT", "the letter t, the digits of two different cities and the digit of a length (1 to 9), at most 16;");
        next("R2" + tracks.repeat(15), "tc", false);
        next("R2" + tracks.repeat(16), "c", false);
        next("R2" + tracks.repeat(16) + contracts, "c", false);
        next("R2" + contracts + tracks.repeat(16), "c", false);
        errorAt("R2" + tracks.repeat(16), NONE);
        errorAt("R2" + tracks.repeat(17), 66);
        edges.terms("TEXT", "the letter c, the digits of two different cities, two digits for the pay (01 to 99) and the "
                + "digit of the rounds (1 to 9), at most 8.");
        next("R2" + contracts.repeat(7), "tc", false);
        next("R2" + contracts.repeat(8), "t", false);
        next("R2" + contracts.repeat(8) + tracks, "t", false);
        next("R2" + tracks + contracts.repeat(8), "t", false);
        errorAt("R2" + contracts.repeat(8), NONE);
        errorAt("R2" + contracts.repeat(9), 50);
        errorAt("R2" + contracts.repeat(8) + tracks.repeat(12), NONE);
        errorAt("R2" + tracks.repeat(16) + contracts.repeat(5), NONE);
    }

    private void endsTooSoon() {
        edges.terms("TEXT", "if the text ends too soon, it is the length of the text.");
        String text = "R9t018c12105t871c80991";
        String ends = "2, 6, 12, 16, 22, ";
        for (int length = 0; length <= text.length(); length++) {
            boolean isGame = length > 0 && (", " + ends).contains(", " + length + ", ");
            errorAt(text.substring(0, length), isGame ? NONE : length);
        }
    }

    private void firstErrorOfSeveral() {
        edges.terms("TEXT", "The text is read from left to right.",
                "The error position is the index of the first character that these rules do not allow at its place;");
        String text = "R3t012c02405";
        for (int place = 0; place < text.length(); place++) {
            errorAt(text.substring(0, place) + "x" + text.substring(place + 1), place);
            errorAt(text.substring(0, place) + "x".repeat(text.length() - place), place);
            errorAt(text.substring(0, place) + "x", place);
        }
    }

    private void textsOfFullLength() {
        edges.terms("TEXT", "The object has a text buffer of at most 100 characters.");
        String nearly = "R2" + "t011".repeat(16) + "c01995".repeat(5);
        errorAt(LONGEST_GAME, NONE);
        errorAt(nearly + "c019", FULL);
        errorAt(nearly + "c01x", FULL - 1);
        errorAt(nearly + "cccc", FULL - 3);
        edges.promise(5, "Returns the number of tracks.");
        edges.answers("load of 100 characters", 14, typed(LONGEST_GAME), RustRails::load);
        edges.refuses("a text that ends too soon", Edges.NOT_NOW, () -> typed(nearly + "c019"), RustRails::load);
    }

    // ---- promise 5

    private void loading() {
        edges.promise(5, "Makes everything as in a new object, but with the cities, tracks and contracts that the text tells.",
                "Forgets all remembered states and empties both save slots.", "Keeps the text.");
        for (String text : new String[] {"R2", "R9", "R3t012t122c02405c01011", LONGEST_GAME}) {
            int tracks = text.length() - text.replace("t", "").length();
            loads(text, tracks);
        }
        edges.same("the cities, tracks and contracts", Checks.picture(Checks.gameOf("R4t013c30079t329c12801c03991")),
                "4 2 3 1 0 -400 0 0 0 0 0 | 0,1,3,-9 3,2,9,-9 "
                + "| 100 1 0 0 0 0 0 | 100 1 0 0 0 0 0 | 100 1 0 0 0 0 0 | 100 1 0 0 0 0 0 "
                + "| 3,0,7,9,-9,0 1,2,80,1,-9,0 0,3,99,1,-9,0 ");
        edges.promise(5, "Returns the number of tracks.");
        for (int tracks : new int[] {0, 1, 15, 16}) {
            loads("R2" + "t109".repeat(tracks), tracks);
        }
    }

    /** From any game the text leads to the same one, with nothing remembered and nothing saved. */
    private void loads(String text, int tracks) {
        Edges.Recipe other = () -> Checks.gameOf(text);
        edges.leads("load of " + text, tracks, () -> typed(text), RustRails::load, other);
        edges.leads("load twice of " + text, tracks, other, RustRails::load, other);
        for (Edges.Recipe recipe : new Edges.Recipe[] {Games::young, Games::old, Games::closed}) {
            Edges.Recipe retyped = () -> {
                RustRails game = recipe.game();
                // what forecasts have used may not show in the game that is loaded
                game.coinsAfter(3, 0);
                Checks.type(game, text);
                return game;
            };
            edges.leads("load of " + text + " later", tracks, retyped, RustRails::load, other);
        }
        edges.refuses("undo after load", Edges.NOT_NOW, other, RustRails::undo);
        edges.refuses("restore(0) after load", Edges.NOT_NOW, other, game -> game.restore(0));
        edges.refuses("restore(1) after load", Edges.NOT_NOW, other, game -> game.restore(1));
        edges.answers("its length after load", text.length(), other.game(), RustRails::clearText);
    }

    private void loadingNoGame() {
        edges.promise(5, "Throws `IllegalStateException` if the text is not a game");
        String[] texts = {"", "R", "R1", "R2t01", "R2t012x", "R2c0100", "R2c01001", "R2 ", "r2",
            "R2" + "t011".repeat(17), "R2" + "c01995".repeat(9), "x".repeat(FULL)};
        for (String text : texts) {
            edges.refuses("load of '" + text + "'", Edges.NOT_NOW, () -> typed(text), RustRails::load);
            edges.refuses("load of '" + text + "' later", Edges.NOT_NOW, () -> {
                RustRails game = Games.young();
                game.save(1);
                Checks.type(game, text);
                return game;
            }, RustRails::load);
        }
        edges.refuses("load in an old game", Edges.NOT_NOW, Games::old, RustRails::load);
        edges.refuses("load in a closed game", Edges.NOT_NOW, Games::closed, RustRails::load);
    }

    // ---- what texts tell

    private void cities() {
        edges.terms("CITIES AND TRACKS", "There are n cities, 2 to 9, numbered from 0,");
        for (int cities = 2; cities <= 9; cities++) {
            int n = cities;
            Edges.Recipe recipe = () -> Checks.gameOf("R" + n + "t0" + (n - 1) + "3");
            edges.answers("n", n, recipe.game(), game -> game.about(0));
            edges.answers("the last city", 3, recipe.game(), game -> game.way(0, 0, n - 1, 24, 0));
            edges.answers("the last city", 3, recipe.game(), game -> game.way(0, n - 1, 0, 24, 0));
            edges.answers("to the last city", 0, recipe.game(), game -> game.offer(0, n - 1, 1, 1));
            edges.answers("from the last city", 0, recipe.game(), game -> game.offer(n - 1, 0, 1, 1));
            for (int city : new int[] {-1, n, n + 1, 9, 10}) {
                if (city < 0 || city >= n) {
                    edges.refuses("way to " + city, Edges.NO_SUCH, recipe, game -> game.way(0, 0, city, 24, 0));
                    edges.refuses("way from " + city, Edges.NO_SUCH, recipe, game -> game.way(0, city, 0, 24, 0));
                    edges.refuses("offer to " + city, Edges.NO_SUCH, recipe, game -> game.offer(0, city, 1, 1));
                    edges.refuses("offer from " + city, Edges.NO_SUCH, recipe, game -> game.offer(city, 0, 1, 1));
                }
            }
        }
        errorAt("R1", 1);
        errorAt("R0", 1);
    }

    private void tracks() {
        edges.terms("CITIES AND TRACKS", "and at most 16 tracks, numbered from 0 in the order in which they were told;",
                "has a length from 1 to 9,", "(several tracks can join the same two)");
        for (int tracks : new int[] {0, 1, 15, 16}) {
            StringBuilder text = new StringBuilder("R2");
            for (int t = 0; t < tracks; t++) {
                text.append(t % 2 == 0 ? "t01" : "t10").append(1 + t % 9);
            }
            Edges.Recipe recipe = () -> Checks.gameOf(text.toString());
            for (int t = 0; t < tracks; t++) {
                int told = t;
                edges.answers("first city of track " + t, t % 2, recipe.game(), game -> game.track(told, 0));
                edges.answers("second city of track " + t, 1 - t % 2, recipe.game(), game -> game.track(told, 1));
                edges.answers("length of track " + t, 1 + t % 9, recipe.game(), game -> game.track(told, 2));
            }
            edges.refuses("behind the last", Edges.NO_SUCH, recipe, game -> game.track(tracks, 0));
            edges.refuses("before the first", Edges.NO_SUCH, recipe, game -> game.track(-1, 0));
            edges.refuses("to buy behind the last", Edges.NO_SUCH, recipe, game -> game.buyTrack(0, tracks));
        }
        edges.terms("CITIES AND TRACKS", "a track joins two different cities");
        errorAt("R2t001", 4);
        errorAt("R2t011", NONE);
        errorAt("R2t111", 4);
        edges.terms("CITIES AND TRACKS", "and belongs to the bank (at first) or to a company.");
        RustRails game = new RustRails();
        edges.answers("at first", NONE, game, it -> it.track(1, 3));
        game.buyTrack(3, 1);
        edges.answers("then", 3, game, it -> it.track(1, 3));
        edges.answers("the other", NONE, game, it -> it.track(0, 3));
    }

    private void contracts() {
        edges.terms("CONTRACTS", "There are at most 8 contracts, numbered from 0;", "a contract has a city from which and "
                + "another one to which mail is carried, a pay from 1 to 99 for each run, rounds that are left, 1 to 9, "
                + "and a holder, a company or none (at first none).");
        RustRails game = Checks.gameOf("R3c12019c20991" + "c01505".repeat(6));
        edges.same("the first", contract(game, 0), "1 2 1 9 -9 0 ");
        edges.same("the second", contract(game, 1), "2 0 99 1 -9 0 ");
        edges.same("the last", contract(game, 7), "0 1 50 5 -9 0 ");
        edges.refuses("behind the last", Edges.NO_SUCH, () -> Checks.gameOf("R2" + "c01505".repeat(8)),
                it -> it.contract(8, 0));
        edges.refuses("behind the last", Edges.NO_SUCH, () -> Checks.gameOf("R2" + "c01505".repeat(7)),
                it -> it.contract(7, 0));
        edges.refuses("of none", Edges.NO_SUCH, () -> Checks.gameOf("R2"), it -> it.contract(0, 0));
    }

    private static String contract(RustRails game, int k) {
        StringBuilder numbers = new StringBuilder();
        for (int what = 0; what <= 5; what++) {
            numbers.append(game.contract(k, what)).append(" ");
        }
        return numbers.toString();
    }
}
