/**
 * A rail game of four companies and a bank: tracks, trains, rents, mail contracts, fines and bankruptcies.
 *
 * The face below checks what a call is given and throws; the classes inside it do the work on a State and never
 * throw. Each of their indexes is tested before it is used, so that the machine has nothing to throw either.
 */
public final class RustRails {
    public static final int NONE = -9;

    private static final int COMPANIES = 4;
    // The bank has a place behind the companies in the rows of coins and rents: paying it is then no special case.
    private static final int BANK = COMPANIES;
    private static final int MAX_CITIES = 9;
    private static final int MAX_TRACKS = 16;
    private static final int MAX_CONTRACTS = 8;
    private static final int MAX_PAY = 99;
    private static final int MAX_CONTRACT_ROUNDS = 9;
    private static final int MAX_TRAINS = 4;
    private static final int MAX_LEVEL = 6;
    private static final int MAX_RENT = 9;
    private static final int REACH_OF_LEVEL = 4;
    private static final int MAX_REACH = REACH_OF_LEVEL * MAX_LEVEL;
    private static final int FIRST_COINS = 100;
    private static final int FIRST_RENT = 1;
    private static final int PRICE_OF_LENGTH = 3;
    private static final int PRICE_OF_LEVEL = 20;
    private static final int WORTH_OF_LEVEL = 10;
    private static final int FINE = 5;
    private static final int MAX_TEXT = 100;
    private static final int MAX_CHARACTER = 255;
    private static final int MAX_REMEMBERED = 14;
    private static final int SLOTS = 2;
    private static final int MAX_FORECAST = 50;
    private static final int MAX_COMMANDS = 3;

    private final GameText text = new GameText();
    private final State present = new State();
    // A state for all that is only tried: texts that are checked, forecasts, scripts and simulations.
    private final State trial = new State();
    private final History history = new History();
    private final Slots slots = new Slots();
    private final Mail mail = new Mail();

    public RustRails() {
        present.begin(3);
        present.tracks.add(0, 1, 2);
        present.tracks.add(1, 2, 2);
    }

    // ---- text

    public int append(int c) throws IllegalArgumentException, IllegalStateException {
        needRange(c, 0, MAX_CHARACTER);
        if (text.isFull()) {
            throw new IllegalStateException("the text is full");
        }
        return text.add(c);
    }

    public int clearText() {
        return text.empty();
    }

    public int errorPosition() {
        return text.readInto(trial);
    }

    public int load() throws IllegalStateException {
        if (text.readInto(trial) != NONE) {
            throw new IllegalStateException("the text is not a game");
        }
        present.copyFrom(trial);
        history.forget();
        slots.empty();
        return present.tracks.count;
    }

    // ---- what there is

    public int about(int what) throws IllegalArgumentException {
        switch (what) {
            case 0: return present.cities;
            case 1: return present.tracks.count;
            case 2: return present.contracts.count;
            case 3: return present.phase;
            case 4: return present.round;
            case 5: return at(present.companies.coins, BANK);
            case 6: return sum(present.companies.rentsGot);
            case 7: return present.pays;
            case 8: return present.fines;
            case 9: return sum(present.companies.bankruptcies);
            case 10: return present.rusted;
            default: throw new IllegalArgumentException("no such number");
        }
    }

    public int track(int t, int what) throws IndexOutOfBoundsException, IllegalArgumentException {
        needTrack(t);
        Tracks tracks = present.tracks;
        switch (what) {
            case 0: return at(tracks.first, t);
            case 1: return at(tracks.second, t);
            case 2: return at(tracks.length, t);
            case 3: return tracks.isOfBank(t) ? NONE : at(tracks.owner, t);
            default: throw new IllegalArgumentException("no such number");
        }
    }

    public int company(int i, int what) throws IndexOutOfBoundsException, IllegalArgumentException {
        needCompany(i);
        Companies companies = present.companies;
        switch (what) {
            case 0: return at(companies.coins, i);
            case 1: return at(companies.rent, i);
            case 2: return at(companies.trains, i);
            case 3: return present.tracks.countOf(i);
            case 4: return present.contracts.countOf(i);
            case 5: return at(companies.rentsGot, i);
            case 6: return at(companies.bankruptcies, i);
            default: throw new IllegalArgumentException("no such number");
        }
    }

    public int train(int i, int j, int what) throws IndexOutOfBoundsException, IllegalArgumentException {
        needCompany(i);
        needTrain(i, j);
        switch (what) {
            case 0: return present.companies.levelOf(i, j);
            case 1: return present.companies.hasRun(i, j) ? 1 : 0;
            default: throw new IllegalArgumentException("no such number");
        }
    }

    public int contract(int k, int what) throws IndexOutOfBoundsException, IllegalArgumentException {
        needContract(k);
        Contracts contracts = present.contracts;
        switch (what) {
            case 0: return at(contracts.from, k);
            case 1: return at(contracts.to, k);
            case 2: return at(contracts.pay, k);
            case 3: return at(contracts.rounds, k);
            case 4: return at(contracts.holder, k);
            case 5: return at(contracts.ran, k);
            default: throw new IllegalArgumentException("no such number");
        }
    }

    // ---- actions

    public int buyTrack(int i, int t) throws IndexOutOfBoundsException, IllegalStateException {
        needCompany(i);
        needTrack(t);
        needAllowed(present.maySellTrack(i, t));
        history.remember(present);
        present.sellTrack(i, t);
        return at(present.companies.coins, i);
    }

    public int buyTrain(int i, int level)
            throws IndexOutOfBoundsException, IllegalArgumentException, IllegalStateException {
        needCompany(i);
        needRange(level, 1, MAX_LEVEL);
        needAllowed(present.maySellTrain(i, level));
        history.remember(present);
        return present.sellTrain(i, level);
    }

    public int setRent(int i, int rent) throws IndexOutOfBoundsException, IllegalArgumentException {
        needCompany(i);
        needRange(rent, 0, MAX_RENT);
        history.remember(present);
        int previous = at(present.companies.rent, i);
        present.companies.changeRent(i, rent);
        return previous;
    }

    public int offer(int a, int b, int pay, int rounds)
            throws IndexOutOfBoundsException, IllegalArgumentException, IllegalStateException {
        needCity(a);
        needCity(b);
        needDifferent(a, b);
        needRange(pay, 1, MAX_PAY);
        needRange(rounds, 1, MAX_CONTRACT_ROUNDS);
        needAllowed(!present.contracts.areFull());
        history.remember(present);
        present.contracts.add(a, b, pay, rounds);
        return present.contracts.count - 1;
    }

    public int take(int i, int k) throws IndexOutOfBoundsException, IllegalStateException {
        needCompany(i);
        needContract(k);
        needAllowed(present.contracts.isFree(k));
        history.remember(present);
        present.contracts.give(k, i);
        return present.contracts.countOf(i);
    }

    public int run(int k, int j) throws IndexOutOfBoundsException, IllegalStateException {
        needContract(k);
        needTrainOfHolder(k, j);
        needAllowed(mail.reasonAgainst(present, k, j) == 0);
        history.remember(present);
        return mail.carry(present, k, j);
    }

    public int endRound() {
        history.remember(present);
        return present.closeRound();
    }

    public int undo() throws IllegalStateException {
        needAllowed(history.count > 0);
        history.takeBackInto(present);
        return history.count;
    }

    // ---- ways

    public int way(int i, int a, int b, int reach, int what)
            throws IndexOutOfBoundsException, IllegalArgumentException {
        needCompany(i);
        needCity(a);
        needCity(b);
        needDifferent(a, b);
        needRange(reach, 1, MAX_REACH);
        needRange(what, 0, 3);
        Ways ways = mail.ways;
        if (!ways.find(present, i, a, b, reach)) {
            return NONE;
        }
        switch (what) {
            case 0: return ways.cost;
            case 1: return ways.length;
            case 2: return ways.count;
            default: return at(ways.found, 0);
        }
    }

    public int whyNot(int k, int j) throws IndexOutOfBoundsException {
        needContract(k);
        needTrainOfHolder(k, j);
        return mail.reasonAgainst(present, k, j);
    }

    public int levelFor(int i, int k) throws IndexOutOfBoundsException {
        needCompany(i);
        needContract(k);
        return mail.smallestLevel(present, i, k);
    }

    // ---- forecasts

    public int bestContract(int i) throws IndexOutOfBoundsException {
        needCompany(i);
        return mail.bestFree(present, i);
    }

    public int coinsAfter(int i, int m) throws IndexOutOfBoundsException, IllegalArgumentException {
        needCompany(i);
        needRange(m, 0, MAX_FORECAST);
        trial.copyFrom(present);
        for (int done = 0; done < m; done++) {
            trial.closeRound();
        }
        return at(trial.companies.coins, i);
    }

    public int bankruptAfter(int i) throws IndexOutOfBoundsException {
        needCompany(i);
        trial.copyFrom(present);
        int before = at(present.companies.bankruptcies, i);
        for (int rounds = 1; rounds <= MAX_FORECAST; rounds++) {
            trial.closeRound();
            if (at(trial.companies.bankruptcies, i) > before) {
                return rounds;
            }
        }
        return NONE;
    }

    public int worth(int i) throws IndexOutOfBoundsException {
        needCompany(i);
        return present.worthOf(i);
    }

    // ---- scripts, simulations

    public int runScript(int n, long script) throws IllegalArgumentException {
        needRange(n, 1, MAX_COMMANDS);
        if (script < 0 || Script.withoutLowest(script, n) > 0) {
            throw new IllegalArgumentException("negative, or too many digits");
        }
        trial.copyFrom(present);
        for (int command = 0; command < n; command++) {
            int group = (int) (Script.withoutLowest(script, n - 1 - command) % Script.GROUP);
            if (!Script.obey(trial, mail, group)) {
                return command;
            }
        }
        return NONE;
    }

    public int simulate(long seed, int m) throws IllegalArgumentException {
        needRange(m, 1, MAX_FORECAST);
        trial.copyFrom(present);
        long x = seed;
        for (int done = 0; done < m; done++) {
            x = x * 6364136223846793005L + 1442695040888963407L;
            trial.dealByChance((int) (x >>> 33));
            mail.carryAll(trial);
            trial.closeRound();
        }
        return trial.greatestWorth() + 10000 * trial.phase;
    }

    // ---- save slots

    public int save(int slot) throws IndexOutOfBoundsException {
        needSlot(slot);
        slots.keep(slot, present);
        return present.round;
    }

    public int restore(int slot) throws IndexOutOfBoundsException, IllegalStateException {
        needSlot(slot);
        needAllowed(slots.isFilled(slot));
        slots.fetchInto(slot, present);
        history.forget();
        return present.round;
    }

    // ---- what the calls of the face need

    private void needCity(int city) {
        needIndex(city >= 0 && city < present.cities);
    }

    private void needTrack(int t) {
        needIndex(present.tracks.has(t));
    }

    private void needContract(int k) {
        needIndex(present.contracts.has(k));
    }

    private void needTrain(int i, int j) {
        needIndex(present.companies.hasTrain(i, j));
    }

    /** A contract without a holder has no trains to choose from: then any number will do. */
    private void needTrainOfHolder(int k, int j) {
        if (!present.contracts.isFree(k)) {
            needTrain(present.contracts.holderOf(k), j);
        }
    }

    private static void needCompany(int i) {
        needIndex(isCompany(i));
    }

    private static void needSlot(int slot) {
        needIndex(slot >= 0 && slot < SLOTS);
    }

    private static void needIndex(boolean exists) {
        if (!exists) {
            throw new IndexOutOfBoundsException("there is no such thing");
        }
    }

    private static void needRange(int value, int least, int most) {
        if (value < least || value > most) {
            throw new IllegalArgumentException("out of range");
        }
    }

    private static void needDifferent(int a, int b) {
        if (a == b) {
            throw new IllegalArgumentException("the cities are the same");
        }
    }

    private static void needAllowed(boolean allowed) {
        if (!allowed) {
            throw new IllegalStateException("not possible now");
        }
    }

    // ---- rows of numbers

    private static boolean isCompany(int i) {
        return i >= 0 && i < COMPANIES;
    }

    private static int at(int[] row, int index) {
        return index >= 0 && index < row.length ? row[index] : 0;
    }

    private static void put(int[] row, int index, int value) {
        if (index >= 0 && index < row.length) {
            row[index] = value;
        }
    }

    private static int sum(int[] row) {
        int total = 0;
        for (int index = 0; index < row.length; index++) {
            total += row[index];
        }
        return total;
    }

    private static void fill(int[] row, int value) {
        for (int index = 0; index < row.length; index++) {
            row[index] = value;
        }
    }

    private static void copyRow(int[] source, int[] target) {
        System.arraycopy(source, 0, target, 0, Math.min(source.length, target.length));
    }

    private static void copyState(State source, State target) {
        if (source != null && target != null) {
            target.copyFrom(source);
        }
    }

    /** The tracks of a state; the owner of a track is a company or BANK. */
    private static final class Tracks {
        final int[] first = new int[MAX_TRACKS];
        final int[] second = new int[MAX_TRACKS];
        final int[] length = new int[MAX_TRACKS];
        final int[] owner = new int[MAX_TRACKS];
        int count;

        boolean has(int t) {
            return t >= 0 && t < count;
        }

        boolean areFull() {
            return count >= MAX_TRACKS;
        }

        boolean isOfBank(int t) {
            return at(owner, t) == BANK;
        }

        void add(int a, int b, int size) {
            if (!areFull()) {
                put(first, count, a);
                put(second, count, b);
                put(length, count, size);
                put(owner, count, BANK);
                count++;
            }
        }

        int priceOf(int t) {
            return PRICE_OF_LENGTH * at(length, t);
        }

        int countOf(int i) {
            int total = 0;
            for (int t = 0; t < count; t++) {
                total += at(owner, t) == i ? 1 : 0;
            }
            return total;
        }

        int lengthsOf(int i) {
            int total = 0;
            for (int t = 0; t < count; t++) {
                total += at(owner, t) == i ? at(length, t) : 0;
            }
            return total;
        }

        /** The city at the other end of the track; NONE if the track does not touch the city. */
        int farEnd(int t, int city) {
            if (at(first, t) == city) {
                return at(second, t);
            }
            return at(second, t) == city ? at(first, t) : NONE;
        }

        void returnToBank(int i) {
            for (int t = 0; t < count; t++) {
                if (at(owner, t) == i) {
                    put(owner, t, BANK);
                }
            }
        }

        void copyFrom(Tracks other) {
            copyRow(other.first, first);
            copyRow(other.second, second);
            copyRow(other.length, length);
            copyRow(other.owner, owner);
            count = other.count;
        }
    }

    /** The contracts of a state; the holder of a contract is a company or NONE. */
    private static final class Contracts {
        final int[] from = new int[MAX_CONTRACTS];
        final int[] to = new int[MAX_CONTRACTS];
        final int[] pay = new int[MAX_CONTRACTS];
        final int[] rounds = new int[MAX_CONTRACTS];
        final int[] holder = new int[MAX_CONTRACTS];
        final int[] ran = new int[MAX_CONTRACTS];
        int count;

        boolean has(int k) {
            return k >= 0 && k < count;
        }

        boolean areFull() {
            return count >= MAX_CONTRACTS;
        }

        boolean isFree(int k) {
            return holderOf(k) == NONE;
        }

        int holderOf(int k) {
            return has(k) ? at(holder, k) : NONE;
        }

        void add(int a, int b, int coins, int left) {
            if (!areFull()) {
                put(from, count, a);
                put(to, count, b);
                put(pay, count, coins);
                put(rounds, count, left);
                put(holder, count, NONE);
                put(ran, count, 0);
                count++;
            }
        }

        void give(int k, int i) {
            put(holder, k, i);
        }

        int countOf(int i) {
            int total = 0;
            for (int k = 0; k < count; k++) {
                total += at(holder, k) == i ? 1 : 0;
            }
            return total;
        }

        void leaveHolder(int i) {
            for (int k = 0; k < count; k++) {
                if (at(holder, k) == i) {
                    put(holder, k, NONE);
                }
            }
        }

        void dropEnded() {
            int kept = 0;
            for (int k = 0; k < count; k++) {
                if (at(rounds, k) > 0) {
                    move(k, kept);
                    kept++;
                }
            }
            count = kept;
        }

        private void move(int k, int place) {
            put(from, place, at(from, k));
            put(to, place, at(to, k));
            put(pay, place, at(pay, k));
            put(rounds, place, at(rounds, k));
            put(holder, place, at(holder, k));
            put(ran, place, at(ran, k));
        }

        void copyFrom(Contracts other) {
            copyRow(other.from, from);
            copyRow(other.to, to);
            copyRow(other.pay, pay);
            copyRow(other.rounds, rounds);
            copyRow(other.holder, holder);
            copyRow(other.ran, ran);
            count = other.count;
        }
    }

    /** The companies of a state with their trains, and behind them the coins and the rent of the bank. */
    private static final class Companies {
        final int[] coins = new int[COMPANIES + 1];
        final int[] rent = new int[COMPANIES + 1];
        final int[] rentsGot = new int[COMPANIES + 1];
        final int[] bankruptcies = new int[COMPANIES];
        final int[] trains = new int[COMPANIES];
        final int[] level = new int[COMPANIES * MAX_TRAINS];
        final int[] ran = new int[COMPANIES * MAX_TRAINS];

        void begin() {
            fill(coins, FIRST_COINS);
            put(coins, BANK, -COMPANIES * FIRST_COINS);
            fill(rent, FIRST_RENT);
            fill(rentsGot, 0);
            fill(bankruptcies, 0);
            fill(trains, 0);
        }

        void transfer(int payer, int payee, int amount) {
            put(coins, payer, at(coins, payer) - amount);
            put(coins, payee, at(coins, payee) + amount);
        }

        void payRent(int payer, int payee, int amount) {
            transfer(payer, payee, amount);
            put(rentsGot, payee, at(rentsGot, payee) + amount);
        }

        void changeRent(int i, int amount) {
            put(rent, i, amount);
        }

        int rentFor(int i, int owner) {
            return i == owner ? 0 : at(rent, owner);
        }

        boolean hasTrain(int i, int j) {
            return j >= 0 && j < at(trains, i);
        }

        boolean hasRun(int i, int j) {
            return hasTrain(i, j) && at(ran, place(i, j)) == 1;
        }

        void markRun(int i, int j) {
            if (hasTrain(i, j)) {
                put(ran, place(i, j), 1);
            }
        }

        int levelOf(int i, int j) {
            return hasTrain(i, j) ? at(level, place(i, j)) : 0;
        }

        int levelsOf(int i) {
            int total = 0;
            for (int j = 0; j < at(trains, i); j++) {
                total += at(level, place(i, j));
            }
            return total;
        }

        /** The greatest level of its trains; 0 if it has none. */
        int greatestLevel(int i) {
            int greatest = 0;
            for (int j = 0; j < at(trains, i); j++) {
                greatest = Math.max(greatest, at(level, place(i, j)));
            }
            return greatest;
        }

        void addTrain(int i, int trainLevel) {
            int j = at(trains, i);
            if (j < MAX_TRAINS) {
                put(level, place(i, j), trainLevel);
                put(ran, place(i, j), 0);
                put(trains, i, j + 1);
            }
        }

        /** Takes away all trains below a level; answers how many they were. */
        int dropBelow(int least) {
            int dropped = 0;
            for (int i = 0; i < COMPANIES; i++) {
                int kept = 0;
                for (int j = 0; j < at(trains, i); j++) {
                    if (at(level, place(i, j)) >= least) {
                        put(level, place(i, kept), at(level, place(i, j)));
                        put(ran, place(i, kept), at(ran, place(i, j)));
                        kept++;
                    }
                }
                dropped += at(trains, i) - kept;
                put(trains, i, kept);
            }
            return dropped;
        }

        void goBankrupt(int i) {
            transfer(BANK, i, -at(coins, i));
            put(trains, i, 0);
            put(bankruptcies, i, at(bankruptcies, i) + 1);
        }

        private static int place(int i, int j) {
            return i * MAX_TRAINS + j;
        }

        void copyFrom(Companies other) {
            copyRow(other.coins, coins);
            copyRow(other.rent, rent);
            copyRow(other.rentsGot, rentsGot);
            copyRow(other.bankruptcies, bankruptcies);
            copyRow(other.trains, trains);
            copyRow(other.level, level);
            copyRow(other.ran, ran);
        }
    }

    /** All that an action can change, and the rules that need no way. */
    private static final class State {
        final Tracks tracks = new Tracks();
        final Contracts contracts = new Contracts();
        final Companies companies = new Companies();
        int cities;
        int phase;
        int round;
        int pays;
        int fines;
        int rusted;

        /** A new game without tracks and contracts. */
        void begin(int numberOfCities) {
            tracks.count = 0;
            contracts.count = 0;
            companies.begin();
            cities = numberOfCities;
            phase = 1;
            round = 0;
            pays = 0;
            fines = 0;
            rusted = 0;
        }

        void copyFrom(State other) {
            tracks.copyFrom(other.tracks);
            contracts.copyFrom(other.contracts);
            companies.copyFrom(other.companies);
            cities = other.cities;
            phase = other.phase;
            round = other.round;
            pays = other.pays;
            fines = other.fines;
            rusted = other.rusted;
        }

        boolean maySellTrack(int i, int t) {
            return isCompany(i) && tracks.has(t) && tracks.isOfBank(t)
                    && at(companies.coins, i) >= tracks.priceOf(t);
        }

        void sellTrack(int i, int t) {
            companies.transfer(i, BANK, tracks.priceOf(t));
            put(tracks.owner, t, i);
        }

        boolean maySellTrain(int i, int level) {
            return isCompany(i) && level >= 1 && level <= MAX_LEVEL
                    && level >= phase - 1 && level <= phase + 1
                    && at(companies.trains, i) < MAX_TRAINS
                    && at(companies.coins, i) >= PRICE_OF_LEVEL * level;
        }

        /** Answers how many trains rust. */
        int sellTrain(int i, int level) {
            companies.transfer(i, BANK, PRICE_OF_LEVEL * level);
            companies.addTrain(i, level);
            if (level <= phase) {
                return 0;
            }
            phase = level;
            int gone = companies.dropBelow(phase - 1);
            rusted += gone;
            return gone;
        }

        boolean mayGive(int i, int k) {
            return isCompany(i) && contracts.has(k) && contracts.isFree(k);
        }

        void payMail(int i, int amount) {
            companies.transfer(BANK, i, amount);
            pays += amount;
        }

        /** Answers how many companies are bankrupt by this. */
        int closeRound() {
            serveContracts();
            payUpkeep();
            int bankrupt = settle();
            round++;
            fill(contracts.ran, 0);
            fill(companies.ran, 0);
            return bankrupt;
        }

        private void serveContracts() {
            for (int k = 0; k < contracts.count; k++) {
                if (!contracts.isFree(k)) {
                    if (at(contracts.ran, k) == 0) {
                        companies.transfer(contracts.holderOf(k), BANK, FINE);
                        fines += FINE;
                    }
                    put(contracts.rounds, k, at(contracts.rounds, k) - 1);
                }
            }
            contracts.dropEnded();
        }

        private void payUpkeep() {
            for (int i = 0; i < COMPANIES; i++) {
                companies.transfer(i, BANK, tracks.countOf(i) + companies.levelsOf(i));
            }
        }

        private int settle() {
            int bankrupt = 0;
            for (int i = 0; i < COMPANIES; i++) {
                if (at(companies.coins, i) < 0) {
                    companies.goBankrupt(i);
                    tracks.returnToBank(i);
                    contracts.leaveHolder(i);
                    bankrupt++;
                }
            }
            return bankrupt;
        }

        int worthOf(int i) {
            return at(companies.coins, i) + PRICE_OF_LENGTH * tracks.lengthsOf(i)
                    + WORTH_OF_LEVEL * companies.levelsOf(i);
        }

        int greatestWorth() {
            int greatest = worthOf(0);
            for (int i = 1; i < COMPANIES; i++) {
                greatest = Math.max(greatest, worthOf(i));
            }
            return greatest;
        }

        /** The purchase of a simulated round: drawn (0 or more) tells which company does what, if it may. */
        void dealByChance(int drawn) {
            int i = drawn / 8 % COMPANIES;
            int choice = drawn / 32;
            switch (drawn % 8) {
                case 0: tryTrain(i, 1 + choice % MAX_LEVEL); break;
                case 1: tryTrack(i, tracks.count > 0 ? choice % tracks.count : NONE); break;
                case 2: tryContract(i, contracts.count > 0 ? choice % contracts.count : NONE); break;
                default: break;
            }
        }

        boolean tryTrack(int i, int t) {
            boolean may = maySellTrack(i, t);
            if (may) {
                sellTrack(i, t);
            }
            return may;
        }

        boolean tryTrain(int i, int level) {
            boolean may = maySellTrain(i, level);
            if (may) {
                sellTrain(i, level);
            }
            return may;
        }

        boolean tryContract(int i, int k) {
            boolean may = mayGive(i, k);
            if (may) {
                contracts.give(k, i);
            }
            return may;
        }
    }

    /** Finds the way of a company, and holds the one that it found last. */
    private static final class Ways {
        private static final int UNREACHED = 1000000;

        // For each length and city, of the ways of just this length from the city to the goal: the least cost, and
        // the smallest track with which a way of this cost begins.
        private final int[] least = new int[(MAX_REACH + 1) * MAX_CITIES];
        private final int[] opening = new int[(MAX_REACH + 1) * MAX_CITIES];
        private final int[] price = new int[MAX_TRACKS];
        private final int[] found = new int[MAX_REACH];
        private int count;
        private int cost;
        private int length;

        boolean find(State state, int i, int a, int b, int reach) {
            setPrices(state, i);
            measure(state.tracks, b, reach);
            chooseLength(a, reach);
            follow(state.tracks, a);
            return cost < UNREACHED;
        }

        private void setPrices(State state, int i) {
            Tracks tracks = state.tracks;
            for (int t = 0; t < tracks.count; t++) {
                put(price, t, at(tracks.length, t) * state.companies.rentFor(i, at(tracks.owner, t)));
            }
        }

        /** Ascending, because a way of a length goes on with a shorter one, which is known by then. */
        private void measure(Tracks tracks, int goal, int reach) {
            fill(least, UNREACHED);
            put(least, place(0, goal), 0);
            for (int size = 1; size <= reach; size++) {
                for (int t = 0; t < tracks.count; t++) {
                    int rest = size - at(tracks.length, t);
                    beginWith(t, place(size, at(tracks.first, t)), place(rest, at(tracks.second, t)));
                    beginWith(t, place(size, at(tracks.second, t)), place(rest, at(tracks.first, t)));
                }
            }
        }

        /** Tracks come ascending: among those of the same cost the first one stays. */
        private void beginWith(int t, int whole, int rest) {
            int through = leastAt(rest) + at(price, t);
            if (through < leastAt(whole)) {
                put(least, whole, through);
                put(opening, whole, t);
            }
        }

        private int leastAt(int place) {
            return place >= 0 && place < least.length ? least[place] : UNREACHED;
        }

        /** Ascending, so that the shortest among the cheapest ways wins. */
        private void chooseLength(int a, int reach) {
            cost = UNREACHED;
            length = 0;
            for (int size = 1; size <= reach; size++) {
                if (leastAt(place(size, a)) < cost) {
                    cost = leastAt(place(size, a));
                    length = size;
                }
            }
        }

        private void follow(Tracks tracks, int a) {
            int city = a;
            int left = length;
            count = 0;
            while (left > 0 && count < MAX_REACH) {
                int t = at(opening, place(left, city));
                put(found, count, t);
                count++;
                city = tracks.farEnd(t, city);
                left -= at(tracks.length, t);
            }
        }

        /** Below 0, so no place of the rows, for a length below 0. */
        private static int place(int size, int city) {
            return size * MAX_CITIES + city;
        }
    }

    /** The rules about contracts that need a way. */
    private static final class Mail {
        private static final int NO_HOLDER = 1;
        private static final int CONTRACT_RAN = 2;
        private static final int TRAIN_RAN = 3;
        private static final int NO_WAY = 4;

        private final Ways ways = new Ways();

        /** The contract's holder, if there is one, has the train; 0 if nothing is against the run. */
        int reasonAgainst(State state, int k, int j) {
            Contracts contracts = state.contracts;
            int i = contracts.holderOf(k);
            if (i == NONE) {
                return NO_HOLDER;
            }
            if (at(contracts.ran, k) == 1) {
                return CONTRACT_RAN;
            }
            if (state.companies.hasRun(i, j)) {
                return TRAIN_RAN;
            }
            int reach = REACH_OF_LEVEL * state.companies.levelOf(i, j);
            return ways.find(state, i, at(contracts.from, k), at(contracts.to, k), reach) ? 0 : NO_WAY;
        }

        /** Makes a run against which nothing is; answers the cost of the way. */
        int carry(State state, int k, int j) {
            Contracts contracts = state.contracts;
            int i = contracts.holderOf(k);
            int reach = REACH_OF_LEVEL * state.companies.levelOf(i, j);
            ways.find(state, i, at(contracts.from, k), at(contracts.to, k), reach);
            for (int step = 0; step < ways.count; step++) {
                int t = at(ways.found, step);
                state.companies.payRent(i, at(state.tracks.owner, t), at(ways.price, t));
            }
            state.payMail(i, at(contracts.pay, k));
            put(contracts.ran, k, 1);
            state.companies.markRun(i, j);
            return ways.cost;
        }

        boolean tryCarry(State state, int k, int j) {
            boolean may = state.companies.hasTrain(state.contracts.holderOf(k), j)
                    && reasonAgainst(state, k, j) == 0;
            if (may) {
                carry(state, k, j);
            }
            return may;
        }

        /** Each contract is run with the first train of its holder that can make the run. */
        void carryAll(State state) {
            for (int k = 0; k < state.contracts.count; k++) {
                for (int j = 0; j < MAX_TRAINS; j++) {
                    if (tryCarry(state, k, j)) {
                        break;
                    }
                }
            }
        }

        int smallestLevel(State state, int i, int k) {
            Contracts contracts = state.contracts;
            for (int level = 1; level <= MAX_LEVEL; level++) {
                if (ways.find(state, i, at(contracts.from, k), at(contracts.to, k), REACH_OF_LEVEL * level)) {
                    return level;
                }
            }
            return NONE;
        }

        int bestFree(State state, int i) {
            Contracts contracts = state.contracts;
            int reach = REACH_OF_LEVEL * state.companies.greatestLevel(i);
            int best = NONE;
            int most = 0;
            for (int k = 0; k < contracts.count; k++) {
                if (contracts.isFree(k) && ways.find(state, i, at(contracts.from, k), at(contracts.to, k), reach)) {
                    int gain = at(contracts.pay, k) - ways.cost;
                    if (best == NONE || gain > most) {
                        best = k;
                        most = gain;
                    }
                }
            }
            return best;
        }
    }

    /** Reads and does the commands of a script: groups of five digits. */
    private static final class Script {
        static final long GROUP = 100000;

        /** The script without some of its lowest groups. */
        static long withoutLowest(long script, int groups) {
            long rest = script;
            for (int dropped = 0; dropped < groups; dropped++) {
                rest /= GROUP;
            }
            return rest;
        }

        /** Answers if the command succeeds; a rest below 10 or 100 is one that has zeros before it. */
        static boolean obey(State state, Mail mail, int group) {
            int who = group / 1000 % 10;
            int rest = group % 1000;
            boolean isDigit = rest < 10;
            switch (group / 10000) {
                case 1: return rest < 100 && state.tryTrack(who, rest);
                case 2: return isDigit && state.tryTrain(who, rest);
                case 3: return isDigit && changeRent(state, who, rest);
                case 4: return isDigit && state.tryContract(who, rest);
                case 5: return isDigit && mail.tryCarry(state, who, rest);
                case 6: return who == 0 && rest == 0 && endOfRound(state);
                case 7: return isCompany(who) && at(state.companies.coins, who) >= rest;
                case 8: return who == 0 && isDigit && state.phase == rest;
                case 9: return isCompany(who) && isDigit && at(state.companies.trains, who) == rest;
                default: return false;
            }
        }

        private static boolean endOfRound(State state) {
            state.closeRound();
            return true;
        }

        private static boolean changeRent(State state, int i, int rent) {
            boolean may = isCompany(i);
            if (may) {
                state.companies.changeRent(i, rent);
            }
            return may;
        }
    }

    /** The text buffer, and the reading of the game that it tells. */
    private static final class GameText {
        private static final int TRACK_PART = 4;
        private static final int CONTRACT_PART = 6;

        private final int[] characters = new int[MAX_TEXT];
        private int size;

        boolean isFull() {
            return size >= MAX_TEXT;
        }

        int add(int c) {
            if (!isFull()) {
                put(characters, size, c);
                size++;
            }
            return size;
        }

        int empty() {
            int previous = size;
            size = 0;
            return previous;
        }

        /** Makes the state the game of the text; answers the error position, or NONE. */
        int readInto(State state) {
            if (!holds(0, 'R')) {
                return 0;
            }
            int cities = digitAt(1);
            if (cities < 2) {
                return 1;
            }
            state.begin(cities);
            int next = 2;
            while (next < size) {
                int error = readPart(state, next);
                if (error != NONE) {
                    return error;
                }
                next += holds(next, 't') ? TRACK_PART : CONTRACT_PART;
            }
            return NONE;
        }

        private int readPart(State state, int start) {
            if (holds(start, 't') && !state.tracks.areFull()) {
                return readTrack(state, start);
            }
            if (holds(start, 'c') && !state.contracts.areFull()) {
                return readContract(state, start);
            }
            return start;
        }

        private int readTrack(State state, int start) {
            int error = errorOfCities(state.cities, start + 1);
            if (error != NONE) {
                return error;
            }
            int length = digitAt(start + 3);
            if (length < 1) {
                return start + 3;
            }
            state.tracks.add(digitAt(start + 1), digitAt(start + 2), length);
            return NONE;
        }

        private int readContract(State state, int start) {
            int error = errorOfCities(state.cities, start + 1);
            if (error != NONE) {
                return error;
            }
            int tens = digitAt(start + 3);
            if (tens < 0) {
                return start + 3;
            }
            int ones = digitAt(start + 4);
            if (ones < 0 || tens + ones == 0) {
                return start + 4;
            }
            int rounds = digitAt(start + 5);
            if (rounds < 1) {
                return start + 5;
            }
            state.contracts.add(digitAt(start + 1), digitAt(start + 2), 10 * tens + ones, rounds);
            return NONE;
        }

        private int errorOfCities(int cities, int start) {
            int a = digitAt(start);
            if (a < 0 || a >= cities) {
                return start;
            }
            int b = digitAt(start + 1);
            return b < 0 || b >= cities || b == a ? start + 1 : NONE;
        }

        private boolean holds(int index, char wanted) {
            return index >= 0 && index < size && at(characters, index) == wanted;
        }

        /** The digit at an index; -1 if there is none. */
        private int digitAt(int index) {
            if (index < 0 || index >= size) {
                return -1;
            }
            int c = at(characters, index);
            return c >= '0' && c <= '9' ? c - '0' : -1;
        }
    }

    /** The states before the last actions, in a ring: a full one loses its oldest. */
    private static final class History {
        private final State[] states = new State[MAX_REMEMBERED];
        private int oldest;
        private int count;

        History() {
            for (int place = 0; place < MAX_REMEMBERED; place++) {
                states[place] = new State();
            }
        }

        void remember(State state) {
            copyState(state, stateAt(count));
            if (count < MAX_REMEMBERED) {
                count++;
            } else {
                oldest = (oldest + 1) % MAX_REMEMBERED;
            }
        }

        void takeBackInto(State state) {
            if (count > 0) {
                count--;
                copyState(stateAt(count), state);
            }
        }

        void forget() {
            count = 0;
        }

        private State stateAt(int age) {
            int place = (oldest + age) % MAX_REMEMBERED;
            return place >= 0 && place < states.length ? states[place] : null;
        }
    }

    /** The save slots. */
    private static final class Slots {
        private final State[] states = new State[SLOTS];
        private final int[] filled = new int[SLOTS];

        Slots() {
            for (int slot = 0; slot < SLOTS; slot++) {
                states[slot] = new State();
            }
        }

        boolean isFilled(int slot) {
            return at(filled, slot) == 1;
        }

        void keep(int slot, State state) {
            copyState(state, stateAt(slot));
            put(filled, slot, 1);
        }

        void fetchInto(int slot, State state) {
            copyState(stateAt(slot), state);
        }

        void empty() {
            fill(filled, 0);
        }

        private State stateAt(int slot) {
            return slot >= 0 && slot < states.length ? states[slot] : null;
        }
    }
}
