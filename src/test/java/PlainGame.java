import java.util.ArrayList;
import java.util.List;

/**
 * The document once more, for PlainModelTest: written with objects and lists, and with a search through all ways, so
 * that a slip in RustRails is not likely to stand here, too. Its methods bear the names of the face.
 */
final class PlainGame {
    private static final int NONE = -9;

    private record Track(int a, int b, int length, int owner) {
        Track ownedBy(int i) {
            return new Track(a, b, length, i);
        }
    }

    private record Contract(int from, int to, int pay, int rounds, int holder, boolean ran) {
        Contract heldBy(int i) {
            return new Contract(from, to, pay, rounds, i, ran);
        }

        Contract after(boolean run) {
            return new Contract(from, to, pay, rounds, holder, run);
        }

        Contract oneRoundLess() {
            return new Contract(from, to, pay, rounds - 1, holder, ran);
        }
    }

    private record Train(int level, boolean ran) {
    }

    private static final class Company {
        int coins = 100;
        int rent = 1;
        int rentsGot;
        int bankruptcies;
        List<Train> trains = new ArrayList<>();

        Company copy() {
            Company other = new Company();
            other.coins = coins;
            other.rent = rent;
            other.rentsGot = rentsGot;
            other.bankruptcies = bankruptcies;
            other.trains = new ArrayList<>(trains);
            return other;
        }
    }

    private static final class World {
        int n = 3;
        int phase = 1;
        int round;
        int bank = -400;
        int rents;
        int pays;
        int fines;
        int rusted;
        List<Track> tracks = new ArrayList<>();
        List<Contract> contracts = new ArrayList<>();
        List<Company> companies = new ArrayList<>(List.of(new Company(), new Company(), new Company(), new Company()));

        World copy() {
            World other = new World();
            other.n = n;
            other.phase = phase;
            other.round = round;
            other.bank = bank;
            other.rents = rents;
            other.pays = pays;
            other.fines = fines;
            other.rusted = rusted;
            other.tracks = new ArrayList<>(tracks);
            other.contracts = new ArrayList<>(contracts);
            other.companies.replaceAll(company -> null);
            for (int i = 0; i < 4; i++) {
                other.companies.set(i, companies.get(i).copy());
            }
            return other;
        }
    }

    private World now = new World();
    private String text = "";
    private final List<World> remembered = new ArrayList<>();
    private final World[] slots = new World[2];

    PlainGame() {
        now.tracks.add(new Track(0, 1, 2, NONE));
        now.tracks.add(new Track(1, 2, 2, NONE));
    }

    private static void index(boolean exists) {
        if (!exists) {
            throw new IndexOutOfBoundsException();
        }
    }

    private static void argument(boolean good) {
        if (!good) {
            throw new IllegalArgumentException();
        }
    }

    private static void state(boolean good) {
        if (!good) {
            throw new IllegalStateException();
        }
    }

    private static boolean in(int value, int least, int most) {
        return value >= least && value <= most;
    }

    private Company known(int i) {
        index(in(i, 0, 3));
        return now.companies.get(i);
    }

    private Contract offered(int k) {
        index(in(k, 0, now.contracts.size() - 1));
        return now.contracts.get(k);
    }

    // ---- text

    public int append(int c) {
        argument(in(c, 0, 255));
        state(text.length() < 100);
        text += (char) c;
        return text.length();
    }

    public int clearText() {
        int length = text.length();
        text = "";
        return length;
    }

    /** The first character up to which no game begins so: tries endings, and knows games by a pattern. */
    public int errorPosition() {
        if (isGame(text)) {
            return NONE;
        }
        for (int length = 1; length <= text.length(); length++) {
            if (!canBecomeGame(text.substring(0, length))) {
                return length - 1;
            }
        }
        return text.length();
    }

    private static boolean canBecomeGame(String start) {
        for (String end : new String[] {"", "R2", "2", "011", "101", "11", "1", "01011", "10011", "1011", "0011",
            "01"}) {
            if (isGame(start + end)) {
                return true;
            }
        }
        return false;
    }

    private static boolean isGame(String whole) {
        if (!whole.matches("R[2-9](t[0-8]{2}[1-9]|c[0-8]{2}[0-9]{2}[1-9])*")) {
            return false;
        }
        List<String> parts = parts(whole);
        int tracks = 0;
        for (String part : parts) {
            char last = (char) (whole.charAt(1) - 1);
            if (part.charAt(1) == part.charAt(2) || part.charAt(1) > last || part.charAt(2) > last
                    || part.startsWith("00", 3)) {
                return false;
            }
            tracks += part.charAt(0) == 't' ? 1 : 0;
        }
        return tracks <= 16 && parts.size() - tracks <= 8;
    }

    private static List<String> parts(String whole) {
        List<String> parts = new ArrayList<>();
        for (String part : whole.substring(2).split("(?=[tc])")) {
            if (!part.isEmpty()) {
                parts.add(part);
            }
        }
        return parts;
    }

    public int load() {
        state(isGame(text));
        now = new World();
        now.n = text.charAt(1) - '0';
        for (String part : parts(text)) {
            int a = part.charAt(1) - '0';
            int b = part.charAt(2) - '0';
            int last = part.charAt(part.length() - 1) - '0';
            if (part.charAt(0) == 't') {
                now.tracks.add(new Track(a, b, last, NONE));
            } else {
                now.contracts.add(new Contract(a, b, Integer.parseInt(part.substring(3, 5)), last, NONE, false));
            }
        }
        remembered.clear();
        slots[0] = null;
        slots[1] = null;
        return now.tracks.size();
    }

    // ---- what there is

    public int about(int what) {
        argument(in(what, 0, 10));
        int bankruptcies = now.companies.stream().mapToInt(company -> company.bankruptcies).sum();
        return new int[] {now.n, now.tracks.size(), now.contracts.size(), now.phase, now.round, now.bank, now.rents,
            now.pays, now.fines, bankruptcies, now.rusted}[what];
    }

    public int track(int t, int what) {
        index(in(t, 0, now.tracks.size() - 1));
        argument(in(what, 0, 3));
        Track track = now.tracks.get(t);
        return new int[] {track.a, track.b, track.length, track.owner}[what];
    }

    public int company(int i, int what) {
        Company company = known(i);
        argument(in(what, 0, 6));
        return new int[] {company.coins, company.rent, company.trains.size(), tracksOf(i).size(), contractsOf(i),
            company.rentsGot, company.bankruptcies}[what];
    }

    private List<Track> tracksOf(int i) {
        return now.tracks.stream().filter(track -> track.owner == i).toList();
    }

    private int contractsOf(int i) {
        return (int) now.contracts.stream().filter(contract -> contract.holder == i).count();
    }

    public int train(int i, int j, int what) {
        List<Train> trains = known(i).trains;
        index(in(j, 0, trains.size() - 1));
        argument(in(what, 0, 1));
        return what == 0 ? trains.get(j).level : trains.get(j).ran ? 1 : 0;
    }

    public int contract(int k, int what) {
        Contract contract = offered(k);
        argument(in(what, 0, 5));
        return new int[] {contract.from, contract.to, contract.pay, contract.rounds, contract.holder,
            contract.ran ? 1 : 0}[what];
    }

    // ---- actions

    private void remember() {
        remembered.add(now.copy());
        if (remembered.size() > 14) {
            remembered.remove(0);
        }
    }

    private void payBank(int i, int amount) {
        now.companies.get(i).coins -= amount;
        now.bank += amount;
    }

    public int buyTrack(int i, int t) {
        Company company = known(i);
        index(in(t, 0, now.tracks.size() - 1));
        Track track = now.tracks.get(t);
        state(track.owner == NONE && company.coins >= 3 * track.length);
        remember();
        payBank(i, 3 * track.length);
        now.tracks.set(t, track.ownedBy(i));
        return company.coins;
    }

    public int buyTrain(int i, int level) {
        Company company = known(i);
        argument(in(level, 1, 6));
        state(in(level, now.phase - 1, now.phase + 1));
        state(company.trains.size() != 4);
        state(company.coins >= 20 * level);
        remember();
        payBank(i, 20 * level);
        company.trains.add(new Train(level, false));
        int before = allTrains();
        if (level == now.phase + 1) {
            now.phase++;
            now.companies.forEach(other -> other.trains.removeIf(train -> train.level < now.phase - 1));
        }
        now.rusted += before - allTrains();
        return before - allTrains();
    }

    private int allTrains() {
        return now.companies.stream().mapToInt(company -> company.trains.size()).sum();
    }

    public int setRent(int i, int rent) {
        Company company = known(i);
        argument(in(rent, 0, 9));
        remember();
        int previous = company.rent;
        company.rent = rent;
        return previous;
    }

    public int offer(int a, int b, int pay, int rounds) {
        index(in(a, 0, now.n - 1) && in(b, 0, now.n - 1));
        argument(a != b && in(pay, 1, 99) && in(rounds, 1, 9));
        state(now.contracts.size() < 8);
        remember();
        now.contracts.add(new Contract(a, b, pay, rounds, NONE, false));
        return now.contracts.size() - 1;
    }

    public int take(int i, int k) {
        known(i);
        Contract contract = offered(k);
        state(contract.holder == NONE);
        remember();
        now.contracts.set(k, contract.heldBy(i));
        return contractsOf(i);
    }

    public int run(int k, int j) {
        state(whyNot(k, j) == 0);
        remember();
        Contract contract = offered(k);
        Company company = known(contract.holder);
        Train train = company.trains.get(j);
        List<Integer> way = bestWay(contract.holder, contract.from, contract.to, 4 * train.level);
        int cost = 0;
        for (int t : way) {
            Track track = now.tracks.get(t);
            int rent = rentOf(contract.holder, t);
            cost += rent;
            company.coins -= rent;
            now.rents += rent;
            if (track.owner == NONE) {
                now.bank += rent;
            } else {
                known(track.owner).coins += rent;
                known(track.owner).rentsGot += rent;
            }
        }
        payBank(contract.holder, -contract.pay);
        now.pays += contract.pay;
        now.contracts.set(k, contract.after(true));
        company.trains.set(j, new Train(train.level, true));
        return cost;
    }

    public int endRound() {
        remember();
        List<Contract> left = new ArrayList<>();
        for (Contract contract : now.contracts) {
            boolean held = contract.holder != NONE;
            if (held && !contract.ran) {
                payBank(contract.holder, 5);
                now.fines += 5;
            }
            Contract then = held ? contract.oneRoundLess() : contract;
            if (then.rounds > 0) {
                left.add(then.after(false));
            }
        }
        now.contracts = left;
        int bankrupt = 0;
        for (int i = 0; i < 4; i++) {
            Company company = now.companies.get(i);
            payBank(i, tracksOf(i).size() + levelsOf(company));
            company.trains.replaceAll(train -> new Train(train.level, false));
        }
        for (int i = 0; i < 4; i++) {
            bankrupt += now.companies.get(i).coins < 0 ? 1 : 0;
            if (now.companies.get(i).coins < 0) {
                ruin(i);
            }
        }
        now.round++;
        return bankrupt;
    }

    private static int levelsOf(Company company) {
        return company.trains.stream().mapToInt(Train::level).sum();
    }

    private void ruin(int i) {
        Company company = now.companies.get(i);
        payBank(i, company.coins);
        company.bankruptcies++;
        company.trains.clear();
        now.tracks.replaceAll(track -> track.owner == i ? track.ownedBy(NONE) : track);
        now.contracts.replaceAll(contract -> contract.holder == i ? contract.heldBy(NONE) : contract);
    }

    public int undo() {
        state(!remembered.isEmpty());
        now = remembered.remove(remembered.size() - 1);
        return remembered.size();
    }

    // ---- ways

    private int rentOf(int i, int t) {
        Track track = now.tracks.get(t);
        int each = track.owner == i ? 0 : track.owner == NONE ? 1 : now.companies.get(track.owner).rent;
        return each * track.length;
    }

    private int costOf(int i, List<Integer> way) {
        return way.stream().mapToInt(t -> rentOf(i, t)).sum();
    }

    private int lengthOf(List<Integer> way) {
        return way.stream().mapToInt(t -> now.tracks.get(t).length).sum();
    }

    /** Looks at all ways that visit no city twice (others cost no less and are longer); null if there is none. */
    private List<Integer> bestWay(int i, int a, int b, int reach) {
        List<List<Integer>> best = new ArrayList<>();
        search(i, a, b, reach, new ArrayList<>(), new ArrayList<>(List.of(a)), best);
        return best.isEmpty() ? null : best.get(0);
    }

    private void search(int i, int city, int b, int left, List<Integer> way, List<Integer> seen,
            List<List<Integer>> best) {
        if (city == b) {
            if (best.isEmpty() || isBetter(i, way, best.get(0))) {
                best.clear();
                best.add(new ArrayList<>(way));
            }
            return;
        }
        for (int t = 0; t < now.tracks.size(); t++) {
            Track track = now.tracks.get(t);
            int next = track.a == city ? track.b : track.b == city ? track.a : NONE;
            if (next != NONE && track.length <= left && !seen.contains(next)) {
                way.add(t);
                seen.add(next);
                search(i, next, b, left - track.length, way, seen, best);
                way.remove(way.size() - 1);
                seen.remove(seen.size() - 1);
            }
        }
    }

    private boolean isBetter(int i, List<Integer> way, List<Integer> other) {
        if (costOf(i, way) != costOf(i, other)) {
            return costOf(i, way) < costOf(i, other);
        }
        if (lengthOf(way) != lengthOf(other)) {
            return lengthOf(way) < lengthOf(other);
        }
        for (int step = 0; step < Math.min(way.size(), other.size()); step++) {
            if (!way.get(step).equals(other.get(step))) {
                return way.get(step) < other.get(step);
            }
        }
        return false;
    }

    public int way(int i, int a, int b, int reach, int what) {
        known(i);
        index(in(a, 0, now.n - 1) && in(b, 0, now.n - 1));
        argument(a != b && in(reach, 1, 24) && in(what, 0, 3));
        List<Integer> way = bestWay(i, a, b, reach);
        return way == null ? NONE : new int[] {costOf(i, way), lengthOf(way), way.size(), way.get(0)}[what];
    }

    public int whyNot(int k, int j) {
        Contract contract = offered(k);
        if (contract.holder == NONE) {
            return 1;
        }
        List<Train> trains = now.companies.get(contract.holder).trains;
        index(in(j, 0, trains.size() - 1));
        if (contract.ran) {
            return 2;
        }
        if (trains.get(j).ran) {
            return 3;
        }
        return bestWay(contract.holder, contract.from, contract.to, 4 * trains.get(j).level) == null ? 4 : 0;
    }

    public int levelFor(int i, int k) {
        known(i);
        Contract contract = offered(k);
        int level = 1;
        while (level <= 6 && bestWay(i, contract.from, contract.to, 4 * level) == null) {
            level++;
        }
        return level <= 6 ? level : NONE;
    }

    // ---- forecasts

    public int bestContract(int i) {
        int reach = 4 * known(i).trains.stream().mapToInt(Train::level).max().orElse(0);
        int best = NONE;
        int most = Integer.MIN_VALUE;
        for (int k = 0; k < now.contracts.size(); k++) {
            Contract contract = now.contracts.get(k);
            List<Integer> way = bestWay(i, contract.from, contract.to, reach);
            if (contract.holder == NONE && way != null && contract.pay - costOf(i, way) > most) {
                most = contract.pay - costOf(i, way);
                best = k;
            }
        }
        return best;
    }

    private PlainGame copy() {
        PlainGame other = new PlainGame();
        other.now = now.copy();
        return other;
    }

    public int coinsAfter(int i, int m) {
        known(i);
        argument(in(m, 0, 50));
        PlainGame later = copy();
        for (int rounds = 0; rounds < m; rounds++) {
            later.endRound();
        }
        return later.company(i, 0);
    }

    public int bankruptAfter(int i) {
        int before = known(i).bankruptcies;
        PlainGame later = copy();
        for (int rounds = 1; rounds <= 50; rounds++) {
            later.endRound();
            if (later.company(i, 6) != before) {
                return rounds;
            }
        }
        return NONE;
    }

    public int worth(int i) {
        Company company = known(i);
        return company.coins + 3 * tracksOf(i).stream().mapToInt(Track::length).sum() + 10 * levelsOf(company);
    }

    // ---- scripts, simulations

    public int runScript(int n, long script) {
        argument(in(n, 1, 3) && script >= 0 && Long.toString(script).length() <= 5 * n);
        String digits = "0".repeat(5 * n - Long.toString(script).length()) + script;
        PlainGame other = copy();
        for (int command = 0; command < n; command++) {
            if (!other.succeeds(digits.substring(5 * command, 5 * command + 5))) {
                return command;
            }
        }
        return NONE;
    }

    private boolean succeeds(String group) {
        int second = group.charAt(1) - '0';
        int last = group.charAt(4) - '0';
        try {
            if (group.matches("1.0..")) {
                buyTrack(second, Integer.parseInt(group.substring(3)));
            } else if (group.matches("2.00.")) {
                buyTrain(second, last);
            } else if (group.matches("3.00.")) {
                setRent(second, last);
            } else if (group.matches("4.00.")) {
                take(second, last);
            } else if (group.matches("5.00.")) {
                run(second, last);
            } else if (group.equals("60000")) {
                endRound();
            } else if (group.matches("7....")) {
                return company(second, 0) >= Integer.parseInt(group.substring(2));
            } else if (group.matches("8000.")) {
                return about(3) == last;
            } else {
                return group.matches("9.00.") && company(second, 2) == last;
            }
            return true;
        } catch (RuntimeException e) {
            return false;
        }
    }

    public int simulate(long seed, int m) {
        argument(in(m, 1, 50));
        PlainGame other = copy();
        long x = seed;
        for (int rounds = 0; rounds < m; rounds++) {
            x = x * 6364136223846793005L + 1442695040888963407L;
            int r = (int) (x >>> 33);
            other.draw(r);
            for (int k = 0; k < other.now.contracts.size(); k++) {
                other.runWithFirst(k);
            }
            other.endRound();
        }
        int greatest = Math.max(Math.max(other.worth(0), other.worth(1)), Math.max(other.worth(2), other.worth(3)));
        return greatest + 10000 * other.now.phase;
    }

    private void draw(int r) {
        int i = r / 8 % 4;
        try {
            if (r % 8 == 0) {
                buyTrain(i, 1 + r / 32 % 6);
            } else if (r % 8 == 1 && !now.tracks.isEmpty()) {
                buyTrack(i, r / 32 % now.tracks.size());
            } else if (r % 8 == 2 && !now.contracts.isEmpty()) {
                take(i, r / 32 % now.contracts.size());
            }
        } catch (IllegalStateException e) {
            // then it does not buy
        }
    }

    private void runWithFirst(int k) {
        int holder = now.contracts.get(k).holder;
        if (holder == NONE) {
            return;
        }
        for (int j = 0; j < now.companies.get(holder).trains.size(); j++) {
            if (whyNot(k, j) == 0) {
                run(k, j);
                return;
            }
        }
    }

    // ---- save slots

    public int save(int slot) {
        index(in(slot, 0, 1));
        slots[slot] = now.copy();
        return now.round;
    }

    public int restore(int slot) {
        index(in(slot, 0, 1));
        state(slots[slot] != null);
        now = slots[slot].copy();
        remembered.clear();
        return now.round;
    }
}
