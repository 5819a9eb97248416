import java.lang.reflect.Method;
import java.lang.reflect.Modifier;
import java.util.ArrayDeque;
import java.util.ArrayList;
import java.util.Arrays;
import java.util.Deque;
import java.util.List;
import java.util.Map;
import java.util.Random;
import java.util.TreeMap;

/** Chooses the calls of a random game, for PlainModelTest. It looks at the plain game alone. */
final class RandomCalls {
    /** EVEN calls all methods alike; BUSY mostly makes actions that are possible; SLOW ends many rounds. */
    enum Style { EVEN, BUSY, SLOW }

    record Call(Method method, Object[] values) {
        @Override
        public String toString() {
            return method.getName() + Arrays.toString(values);
        }
    }

    private static final Map<String, Method> FACE = new TreeMap<>();

    static {
        for (Method method : RustRails.class.getDeclaredMethods()) {
            if (Modifier.isPublic(method.getModifiers())) {
                FACE.put(method.getName(), method);
            }
        }
    }

    private final List<Method> methods = new ArrayList<>(FACE.values());
    private final Deque<Call> planned = new ArrayDeque<>();
    private final Style style;
    private final Random random;
    private final PlainGame plain;

    RandomCalls(Style style, long seed, PlainGame plain) {
        this.style = style;
        this.random = new Random(seed);
        this.plain = plain;
        if (random.nextInt(8) > 0) {
            gameText().chars().forEach(c -> planned.add(call("append", c)));
            planned.add(call("load"));
        }
    }

    static int countOfMethods() {
        return FACE.size();
    }

    static Call call(String name, Object... values) {
        return new Call(FACE.get(name), values);
    }

    Call next() {
        while (planned.isEmpty()) {
            if (style == Style.EVEN) {
                planEven();
            } else if (style == Style.SLOW && random.nextInt(3) > 0) {
                planned.add(call("endRound"));
            } else {
                planBusy();
            }
        }
        return planned.remove();
    }

    // ---- calls that are mostly possible

    private void planBusy() {
        switch (random.nextInt(24)) {
            case 0: case 1: case 2: case 3: case 4: case 5: planRun(); break;
            case 6: case 7: case 8: planTake(); break;
            case 9: case 10: planOffer(); break;
            case 11: case 12: planTrain(); break;
            case 13: planned.add(call("buyTrack", company(), anyTrack())); break;
            case 14: planned.add(call("setRent", company(), mostly(0, 9))); break;
            case 15: case 16: case 17: planned.add(call("endRound")); break;
            case 18: planUndos(); break;
            default: planEven(); break;
        }
    }

    private void planRun() {
        List<Call> possible = new ArrayList<>();
        for (int k = 0; k < plain.about(2); k++) {
            int i = plain.contract(k, 4);
            for (int j = 0; i >= 0 && j < plain.company(i, 2); j++) {
                if (plain.whyNot(k, j) == 0) {
                    possible.add(call("run", k, j));
                }
            }
        }
        planOneOf(possible);
    }

    private void planTake() {
        List<Call> possible = new ArrayList<>();
        for (int i = 0; i < 4; i++) {
            int k = plain.bestContract(i);
            if (k >= 0) {
                possible.add(call("take", i, k));
            }
        }
        planOneOf(possible);
    }

    private void planTrain() {
        List<Call> possible = new ArrayList<>();
        for (int i = 0; i < 4; i++) {
            for (int level = plain.about(3); level <= Math.min(6, plain.about(3) + 1); level++) {
                if (plain.company(i, 0) >= 20 * level && plain.company(i, 2) < 4) {
                    possible.add(call("buyTrain", i, level));
                }
            }
        }
        planOneOf(possible);
    }

    private void planOffer() {
        if (plain.about(2) < 8) {
            planned.add(call("offer", city(), city(), mostly(30, 99), mostly(1, 9)));
        }
    }

    /** Sometimes more of them than states are remembered. */
    private void planUndos() {
        int most = random.nextInt(4) == 0 ? 16 : 3;
        for (int count = random.nextInt(most); count >= 0; count--) {
            planned.add(call("undo"));
        }
    }

    private void planOneOf(List<Call> possible) {
        if (!possible.isEmpty()) {
            planned.add(possible.get(random.nextInt(possible.size())));
        }
    }

    // ---- any call

    private void planEven() {
        Method method = methods.get(random.nextInt(methods.size()));
        boolean isRare = List.of("load", "clearText").contains(method.getName())
                || style != Style.EVEN && List.of("restore", "undo").contains(method.getName());
        if (!isRare || random.nextInt(40) == 0) {
            planned.add(new Call(method, arguments(method.getName())));
        }
    }

    private Object[] arguments(String name) {
        int k = mostly(0, Math.max(0, plain.about(2) - 1));
        int j = mostly(0, 2);
        switch (name) {
            case "append": return new Object[] {character()};
            case "about": return new Object[] {mostly(0, 10)};
            case "track": return new Object[] {anyTrack(), mostly(0, 3)};
            case "company": return new Object[] {company(), mostly(0, 6)};
            case "train": return new Object[] {company(), j, mostly(0, 1)};
            case "contract": return new Object[] {k, mostly(0, 5)};
            case "buyTrack": return new Object[] {company(), anyTrack()};
            case "buyTrain": return new Object[] {company(), mostly(1, Math.min(6, plain.about(3) + 1))};
            case "setRent": return new Object[] {company(), mostly(0, 9)};
            case "offer": return new Object[] {city(), city(), mostly(1, 99), mostly(1, 9)};
            case "take": case "levelFor": return new Object[] {company(), k};
            case "run": case "whyNot": return new Object[] {k, j};
            case "way": return new Object[] {company(), city(), city(), mostly(1, 24), mostly(0, 3)};
            case "bestContract": case "bankruptAfter": case "worth": return new Object[] {company()};
            case "coinsAfter": return new Object[] {company(), mostly(0, 50)};
            case "runScript": return script();
            case "simulate": return new Object[] {random.nextLong(), mostly(1, 50)};
            case "save": case "restore": return new Object[] {mostly(0, 1)};
            default: return new Object[0];
        }
    }

    private int mostly(int least, int most) {
        return random.nextInt(30) == 0 ? least - 1 + random.nextInt(most - least + 3)
                : least + random.nextInt(Math.max(1, most - least + 1));
    }

    private int company() {
        return mostly(0, 3);
    }

    private int city() {
        return mostly(0, plain.about(0) - 1);
    }

    private int anyTrack() {
        return mostly(0, Math.max(0, plain.about(1) - 1));
    }

    private int character() {
        String likely = "R23tc0123459tctc";
        return random.nextInt(9) == 0 ? mostly(0, 255) : likely.charAt(random.nextInt(likely.length()));
    }

    private Object[] script() {
        int n = mostly(1, 3);
        long script = 0;
        for (int command = 0; command < n; command++) {
            script = script * 100000 + group();
        }
        return new Object[] {n, random.nextInt(30) == 0 ? random.nextLong() : script};
    }

    private int group() {
        int i = 1000 * company();
        switch (random.nextInt(11)) {
            case 1: return 10000 + i + random.nextInt(18);
            case 2: return 20000 + i + random.nextInt(8);
            case 3: return 30000 + i + random.nextInt(12);
            case 4: return 40000 + i + random.nextInt(9);
            case 5: return 50000 + 1000 * random.nextInt(9) + random.nextInt(4);
            case 6: return 60000 + (random.nextInt(9) == 0 ? 1 : 0);
            case 7: return 70000 + i + random.nextInt(200);
            case 8: return 80000 + random.nextInt(7);
            case 9: return 90000 + i + random.nextInt(5);
            case 10: return random.nextInt(100000);
            default: return 10000 * random.nextInt(10) + i + random.nextInt(10);
        }
    }

    // ---- texts

    private String gameText() {
        int n = 2 + random.nextInt(random.nextBoolean() ? 3 : 8);
        StringBuilder text = new StringBuilder("R").append(n);
        int tracks = random.nextInt(17);
        int longest = 1 + random.nextInt(9);
        for (int t = 0; t < tracks; t++) {
            text.append("t").append(cities(n)).append(1 + random.nextInt(longest));
        }
        while (text.length() <= 94 && random.nextInt(9) > 0 && text.length() < 2 + 4 * tracks + 48) {
            int pay = 1 + random.nextInt(99);
            text.append("c").append(cities(n)).append(pay / 10).append(pay % 10).append(1 + random.nextInt(9));
        }
        return text.toString();
    }

    private String cities(int n) {
        int a = random.nextInt(n);
        return "" + a + (a + 1 + random.nextInt(n - 1)) % n;
    }
}
