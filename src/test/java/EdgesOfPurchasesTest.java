/** The edges of promises 11 to 13, and of what the document says of trains, phases and rust. */
final class EdgesOfPurchasesTest {
    private final Edges edges;

    private EdgesOfPurchasesTest(Edges edges) {
        this.edges = edges;
    }

    public static void main(String[] args) {
        Edges.test(EdgesOfPurchasesTest::all);
    }

    static void all(Edges edges) {
        EdgesOfPurchasesTest test = new EdgesOfPurchasesTest(edges);
        test.pricesOfTracks();
        test.tracksThatAreThere();
        test.ownedTracks();
        test.levels();
        test.pricesOfTrains();
        test.levelsOfPhases();
        test.phasesThatStay();
        test.rust();
        test.rustOfAllCompanies();
        test.numbersOfTrains();
        test.fourTrains();
        test.newTrains();
        test.firstExceptionOfTrains();
        test.rents();
    }

    // ---- promise 11

    private void pricesOfTracks() {
        edges.promise(11, "A company buys a track from the bank, for 3 times its length.",
                "Returns the coins of the company then.",
                "Throws `IllegalStateException` if the track does not belong to the bank, or the company has fewer coins "
                + "than that");
        for (int size = 1; size <= 9; size++) {
            int length = size;
            int price = 3 * size;
            int t = Games.TRACK_BEFORE_LENGTH_1 + size;
            edges.answers("length", length, Games.counted(price, 1), game -> game.track(t, 2));
            edges.answers("the last coins for length " + size, 0, Games.counted(price, 1), game -> game.buyTrack(1, t));
            edges.answers("all but one", 1, Games.counted(price + 1, 1), game -> game.buyTrack(1, t));
            edges.refuses("one coin too few for length " + size, Edges.NOT_NOW, () -> Games.counted(price - 1, 1),
                    game -> game.buyTrack(1, t));
            RustRails game = Games.counted(price, 1);
            int bank = game.about(5);
            game.buyTrack(1, t);
            edges.answers("the bank gets them", bank + price, game, it -> it.about(5));
            edges.answers("its owner", 1, game, it -> it.track(t, 3));
            edges.answers("its coins", 0, game, it -> it.company(1, 0));
        }
        edges.answers("of 100 coins", 100 - 27, Checks.gameOf("R2t019"), game -> game.buyTrack(3, 0));
    }

    private void tracksThatAreThere() {
        edges.promise(11, "`t`: track", "Throws `IndexOutOfBoundsException` if there is no such company or track");
        for (int tracks : new int[] {0, 1, 2, 15, 16}) {
            Edges.Recipe recipe = () -> Checks.gameOf("R2" + "t011".repeat(tracks));
            for (int t : new int[] {0, tracks - 1}) {
                if (t >= 0 && t < tracks) {
                    edges.answers("track " + t, 97, recipe.game(), game -> game.buyTrack(0, t));
                    edges.answers("track " + t, 97, recipe.game(), game -> game.buyTrack(3, t));
                    edges.refuses("company 4", Edges.NO_SUCH, recipe, game -> game.buyTrack(4, t));
                    edges.refuses("company -1", Edges.NO_SUCH, recipe, game -> game.buyTrack(-1, t));
                }
            }
            edges.refuses("behind the last of " + tracks, Edges.NO_SUCH, recipe, game -> game.buyTrack(0, tracks));
            edges.refuses("before the first of " + tracks, Edges.NO_SUCH, recipe, game -> game.buyTrack(0, -1));
        }
        edges.refuses("no such track, and no coins", Edges.NO_SUCH, () -> Games.counted(1, 1), game -> game.buyTrack(1, 14));
        edges.refuses("no such company, and owned", Edges.NO_SUCH, Games::closed, game -> game.buyTrack(4, 0));
        edges.refuses("no such track, all owned", Edges.NO_SUCH, Games::closed, game -> game.buyTrack(3, 2));
    }

    private void ownedTracks() {
        edges.promise(11, "Throws `IllegalStateException` if the track does not belong to the bank, or the company has fewer "
                + "coins than that");
        for (int i = 0; i <= 3; i++) {
            int owner = i;
            Edges.Recipe recipe = () -> {
                RustRails game = new RustRails();
                game.buyTrack(owner, 1);
                return game;
            };
            for (int other = 0; other <= 3; other++) {
                int buyer = other;
                edges.refuses(buyer + " from " + owner, Edges.NOT_NOW, recipe, game -> game.buyTrack(buyer, 1));
                edges.answers("the track before it", buyer == owner ? 88 : 94, recipe.game(),
                        game -> game.buyTrack(buyer, 0));
            }
        }
        RustRails game = new RustRails();
        game.buyTrack(0, 0);
        game.buyTrain(0, 2);
        game.buyTrain(0, 2);
        game.endRound();
        game.endRound();
        edges.answers("4 coins, and 5 for upkeep", 1, game, RustRails::endRound);
        edges.answers("its track is the bank's again", 94, game, it -> it.buyTrack(3, 0));
    }

    // ---- promise 12: levels and phases

    private void levels() {
        edges.terms("TRAINS", "A train has a level from 1 to 6; its reach is 4 * level.");
        for (int last = 1; last <= 6; last++) {
            int level = last;
            Edges.Recipe recipe = () -> Games.reaching(level);
            int j = recipe.game().company(0, 2) - 1;
            edges.answers("level", level, recipe.game(), game -> game.train(0, j, 0));
            edges.onlyAnswers("as far as the reach of level " + level, 0, recipe, game -> game.whyNot(0, j));
            edges.onlyAnswers("1 farther", 4, recipe, game -> game.whyNot(1, j));
            edges.answers("a run as far", 4 * level, recipe.game(), game -> game.run(0, j));
            edges.refuses("a run 1 farther", Edges.NOT_NOW, recipe, game -> game.run(1, j));
        }
    }

    private void pricesOfTrains() {
        edges.terms("TRAINS", "A train of a level costs 20 * level, paid to the bank;");
        edges.promise(12, "or it has fewer coins than the train costs");
        for (int p = 1; p <= 6; p++) {
            int phase = p;
            for (int l = Math.max(1, p - 1); l <= Math.min(6, p + 1); l++) {
                int level = l;
                int price = 20 * level;
                String what = "level " + level + " in phase " + phase;
                edges.refuses(what + " for one coin less", Edges.NOT_NOW, () -> Games.counted(price - 1, phase),
                        game -> game.buyTrain(1, level));
                bought(what, Games.counted(price, phase), level, 0);
                bought(what, Games.counted(price + 1, phase), level, 1);
            }
        }
    }

    private void bought(String what, RustRails game, int level, int left) {
        int bank = game.about(5);
        int rusted = game.about(10);
        int gone = game.buyTrain(1, level);
        edges.answers(what + ": coins", left, game, it -> it.company(1, 0));
        edges.answers(what + ": the bank's coins", bank + 20 * level, game, it -> it.about(5));
        edges.answers(what + ": its level", level, game, it -> it.train(1, 0, 0));
        edges.answers(what + ": did not run", 0, game, it -> it.train(1, 0, 1));
        edges.answers(what + ": rust", rusted + gone, game, it -> it.about(10));
    }

    private void levelsOfPhases() {
        edges.terms("TRAINS", "The phase is 1 at first.", "its level is at least the phase - 1 and at most the phase + 1.",
                "If the level is the phase + 1, the phase increases by 1,");
        edges.promise(12, "Throws `IllegalStateException` if the level is less than the phase - 1 or greater than the phase + 1,");
        edges.answers("at first", 1, new RustRails(), game -> game.about(3));
        for (int p = 1; p <= 6; p++) {
            int phase = p;
            Edges.Recipe recipe = () -> Games.counted(133, phase);
            for (int l = 0; l <= 7; l++) {
                int level = l;
                String what = "level " + level + " in phase " + phase;
                if (level < 1 || level > 6) {
                    edges.refuses(what, Edges.OUT_OF_RANGE, recipe, game -> game.buyTrain(1, level));
                } else if (level < phase - 1 || level > phase + 1) {
                    edges.refuses(what, Edges.NOT_NOW, recipe, game -> game.buyTrain(1, level));
                } else {
                    RustRails game = recipe.game();
                    game.buyTrain(1, level);
                    edges.answers(what + ": level", level, game, it -> it.train(1, 0, 0));
                    edges.answers(what + ": phase", Math.max(phase, level), game, it -> it.about(3));
                }
            }
        }
    }

    private void phasesThatStay() {
        edges.terms("TRAINS", "If the level is the phase + 1, the phase increases by 1,");
        edges.promise(12, "Returns how many trains rust by this.");
        for (int phase = 1; phase <= 6; phase++) {
            RustRails game = zoo(phase);
            String[] before = allTrains(game);
            int rusted = game.about(10);
            for (int level = Math.max(1, phase - 1); level <= phase; level++) {
                int bought = level;
                edges.answers("level " + level + " in phase " + phase, 0, game, it -> it.buyTrain(1, bought));
            }
            edges.answers("the phase", phase, game, it -> it.about(3));
            edges.answers("rust", rusted, game, it -> it.about(10));
            edges.same("the trains of the others", allTrains(game)[0] + " " + allTrains(game)[2] + " " + allTrains(game)[3],
                    before[0] + " " + before[2] + " " + before[3]);
        }
    }

    /** A game of this phase where company 0 and company 2 have trains of the phase and of the phase before it. */
    private static RustRails zoo(int phase) {
        RustRails game = Games.rich(phase);
        int least = Math.max(1, phase - 1);
        if (phase > 2) {
            game.buyTrain(0, phase);
            game.buyTrain(0, least);
            game.buyTrain(0, phase);
            game.buyTrain(2, least);
            game.buyTrain(2, least);
            game.buyTrain(2, phase);
        } else {
            game.buyTrain(0, phase);
            game.buyTrain(0, least);
            game.buyTrain(2, least);
        }
        return game;
    }

    private static String[] allTrains(RustRails game) {
        String[] trains = new String[4];
        for (int i = 0; i < 4; i++) {
            trains[i] = Games.trains(game, i);
        }
        return trains;
    }

    // ---- promise 12: rust

    private void rust() {
        edges.terms("TRAINS", "and all trains (of all companies) whose level is less than the phase - 1 rust: they are gone.");
        edges.promise(12, "Returns how many trains rust by this.");
        for (int phase = 1; phase <= 5; phase++) {
            RustRails game = zoo(phase);
            int next = phase + 1;
            int rusted = game.about(10);
            StringBuilder[] left = new StringBuilder[4];
            int gone = 0;
            for (int i = 0; i < 4; i++) {
                String all = Games.trains(game, i);
                left[i] = new StringBuilder();
                for (int j = 0; j < all.length(); j++) {
                    boolean rusts = all.charAt(j) - '0' < next - 1;
                    gone += rusts ? 1 : 0;
                    left[i].append(rusts ? "" : all.charAt(j));
                }
            }
            left[1].append(next);
            edges.answers("by level " + next, gone, game, it -> it.buyTrain(1, next));
            edges.same("in phase " + next, String.join(" ", allTrains(game)), String.join(" ", left));
            edges.answers("rust so far", rusted + gone, game, it -> it.about(10));
            edges.answers("the phase", next, game, it -> it.about(3));
        }
        edges.answers("in phase 6 nothing rusts", 0, zoo(6), game -> game.buyTrain(1, 6));
    }

    /** The same with levels that are written out. */
    private void rustOfAllCompanies() {
        edges.terms("TRAINS", "and all trains (of all companies) whose level is less than the phase - 1 rust: they are gone.");
        RustRails game = Games.rich(2);
        edges.same("phase 2", String.join(" ", allTrains(game)), "11 11 11 112");
        game.buyTrain(0, 2);
        game.buyTrain(0, 1);
        game.buyTrain(1, 2);
        game.buyTrain(2, 1);
        edges.same("before", String.join(" ", allTrains(game)), "1121 112 111 112");
        edges.answers("all of level 1", 3 + 2 + 3 + 2, game, it -> it.buyTrain(1, 3));
        edges.same("after", String.join(" ", allTrains(game)), "2 23  2");
        game.buyTrain(0, 3);
        game.buyTrain(0, 2);
        game.buyTrain(2, 3);
        edges.answers("all of level 2, its own, too", 2 + 1 + 1, game, it -> it.buyTrain(1, 4));
        edges.same("after", String.join(" ", allTrains(game)), "3 34 3 ");
        edges.answers("all of level 3", 3, game, it -> it.buyTrain(3, 5));
        edges.same("after", String.join(" ", allTrains(game)), " 4  5");
        edges.answers("all of level 4", 1, game, it -> it.buyTrain(0, 6));
        edges.same("after", String.join(" ", allTrains(game)), "6   5");
        edges.answers("all so far", 10 + 4 + 3 + 1, game, it -> it.about(10));
    }

    private void numbersOfTrains() {
        edges.terms("TRAINS", "The trains of a company are numbered from 0 in the order in which they were bought; if some "
                + "are gone, the numbers of later ones decrease.");
        RustRails game = Games.rich(2);
        game.buyTrain(0, 2);
        game.buyTrain(0, 1);
        edges.same("as they were bought", Games.trains(game, 0), "1121");
        game.run(0, 2);
        game.run(1, 3);
        edges.same("two ran", Games.trains(game, 0), "112!1!");
        game.buyTrain(3, 3);
        edges.same("the third is the first now, and ran", Games.trains(game, 0), "2!");
        edges.answers("there is no second", 1, game, it -> it.company(0, 2));
        game.buyTrain(0, 3);
        edges.same("what is bought then did not run", Games.trains(game, 0), "2!3");
        game.buyTrain(0, 2);
        game.buyTrain(0, 3);
        game.buyTrain(3, 4);
        edges.same("the first and the third are gone", Games.trains(game, 0), "33");
        edges.refuses("a number that is gone", Edges.NO_SUCH, () -> Games.rich(3), it -> it.train(0, 0, 0));
        edges.refuses("one behind the last", Edges.NO_SUCH, () -> Games.rich(3), it -> it.train(3, 2, 0));
    }

    // ---- promise 12: what else can be in the way

    private void fourTrains() {
        edges.promise(12, "the company has 4 trains (also if some would rust by this),");
        edges.terms("COMPANIES AND THE BANK", "and at most 4 trains;");
        Edges.Recipe three = () -> trainsOfLevel1(3);
        Edges.Recipe four = () -> trainsOfLevel1(4);
        edges.answers("the fourth train", 0, three.game(), game -> game.buyTrain(0, 1));
        edges.answers("the fourth train of the next phase", 0, three.game(), game -> game.buyTrain(0, 2));
        edges.answers("the fourth train, while 3 rust", 3, toPhase2(three).game(), game -> game.buyTrain(0, 3));
        edges.answers("they are enough coins", 118, four.game(), game -> game.company(0, 0));
        edges.refuses("a fifth one", Edges.NOT_NOW, four, game -> game.buyTrain(0, 1));
        edges.refuses("a fifth one of the next phase", Edges.NOT_NOW, four, game -> game.buyTrain(0, 2));
        edges.refuses("a fifth one, while 4 would rust", Edges.NOT_NOW, toPhase2(four), game -> game.buyTrain(0, 3));
        edges.answers("another company", 4, toPhase2(four).game(), game -> game.buyTrain(2, 3));
        RustRails game = toPhase2(four).game();
        game.buyTrain(2, 3);
        edges.answers("when they have rusted", 0, game, it -> it.buyTrain(0, 3));
    }

    /** Company 0 has these trains, and, by a run, 118 coins with 4 of them. */
    private static RustRails trainsOfLevel1(int trains) {
        RustRails game = Checks.gameOf("R2t011c01995");
        for (int j = 0; j < trains; j++) {
            game.buyTrain(0, 1);
        }
        game.take(0, 0);
        game.run(0, 0);
        return game;
    }

    private static Edges.Recipe toPhase2(Edges.Recipe recipe) {
        return () -> {
            RustRails game = recipe.game();
            game.buyTrain(1, 2);
            return game;
        };
    }

    private void newTrains() {
        edges.promise(12, "A company buys a train (which did not run in this round).");
        RustRails game = trainsOfLevel1(1);
        edges.same("it ran", Games.trains(game, 0), "1!");
        game.buyTrain(0, 1);
        edges.same("the new one did not", Games.trains(game, 0), "1!1");
        game.buyTrain(1, 2);
        game.buyTrain(2, 3);
        edges.same("both are gone", Games.trains(game, 0), "");
        game.buyTrain(0, 2);
        edges.same("in the place of one that ran", Games.trains(game, 0), "2");
        game.offer(0, 1, 9, 1);
        game.take(0, 1);
        edges.answers("it can run at once", 1, game, it -> it.run(1, 0));
    }

    private void firstExceptionOfTrains() {
        edges.promise(12, "Throws `IndexOutOfBoundsException` if there is no such company",
                "Throws `IllegalArgumentException` if level is out of range",
                "Throws `IllegalStateException` if the level is less than the phase - 1 or greater than the phase + 1,");
        Edges.Recipe four = () -> trainsOfLevel1(4);
        edges.refuses("no company, no level", Edges.NO_SUCH, four, game -> game.buyTrain(4, 7));
        edges.refuses("no company, no level", Edges.NO_SUCH, four, game -> game.buyTrain(-1, 0));
        edges.refuses("no company, too high for the phase", Edges.NO_SUCH, four, game -> game.buyTrain(4, 6));
        edges.refuses("no level, and four trains", Edges.OUT_OF_RANGE, four, game -> game.buyTrain(0, 7));
        edges.refuses("no level, and four trains", Edges.OUT_OF_RANGE, four, game -> game.buyTrain(0, 0));
        edges.refuses("no level, and no coins", Edges.OUT_OF_RANGE, () -> Games.counted(1, 6), game -> game.buyTrain(1, 7));
        edges.refuses("too low, and no coins", Edges.NOT_NOW, () -> Games.counted(1, 6), game -> game.buyTrain(1, 1));
        edges.refuses("level 7 is not phase 6 + 1", Edges.OUT_OF_RANGE, () -> Games.rich(6), game -> game.buyTrain(1, 7));
    }

    // ---- promise 13

    private void rents() {
        edges.promise(13, "`rent`: 0 to 9", "Returns the previous rent.");
        for (int i = 0; i <= 3; i++) {
            int company = i;
            RustRails game = new RustRails();
            int previous = 1;
            for (int rent : new int[] {0, 9, 9, 1, 8, 0, 0}) {
                edges.answers("setRent " + rent, previous, game, it -> it.setRent(company, rent));
                edges.answers("rent", rent, game, it -> it.company(company, 1));
                edges.answers("of the next company", 1, game, it -> it.company((company + 1) % 4, 1));
                previous = rent;
            }
        }
        edges.promise(13, "Throws `IndexOutOfBoundsException` if there is no such company",
                "Throws `IllegalArgumentException` if rent is out of range");
        for (Edges.Recipe recipe : new Edges.Recipe[] {RustRails::new, Games::old}) {
            edges.refuses("rent -1", Edges.OUT_OF_RANGE, recipe, game -> game.setRent(3, -1));
            edges.refuses("rent 10", Edges.OUT_OF_RANGE, recipe, game -> game.setRent(3, 10));
            edges.refuses("company 4", Edges.NO_SUCH, recipe, game -> game.setRent(4, 1));
            edges.refuses("company 4, rent 10", Edges.NO_SUCH, recipe, game -> game.setRent(4, 10));
            edges.refuses("company -1, rent -1", Edges.NO_SUCH, recipe, game -> game.setRent(-1, -1));
        }
    }
}
