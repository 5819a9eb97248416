import java.lang.reflect.InvocationTargetException;
import java.lang.reflect.Method;
import java.util.ArrayList;
import java.util.Comparator;
import java.util.List;
import java.util.Random;

/** Plays random games of 512 calls on a RustRails and a PlainGame: all answers and exceptions must be the same. */
final class PlainModelTest {
    private static final int GAMES = 400;
    private static final int CALLS = 512;

    private static final Checks CHECKS = new Checks();
    private static final List<Method> FACE = new ArrayList<>();
    private static Random random;

    public static void main(String[] args) throws ReflectiveOperationException {
        for (Method method : RustRails.class.getDeclaredMethods()) {
            if (java.lang.reflect.Modifier.isPublic(method.getModifiers())) {
                FACE.add(method);
            }
        }
        FACE.sort(Comparator.comparing(Method::getName));
        CHECKS.due("methods of the face", 28, () -> FACE.size());
        for (int game = 0; game < GAMES; game++) {
            random = new Random(game);
            play(game);
        }
        CHECKS.end();
    }

    private static void play(int number) throws ReflectiveOperationException {
        RustRails game = new RustRails();
        PlainGame plain = new PlainGame();
        if (random.nextInt(8) > 0) {
            String text = gameText();
            for (int index = 0; index < text.length(); index++) {
                game.append(text.charAt(index));
                plain.append(text.charAt(index));
            }
            same(number, 0, "load of " + text, Checks.outcome(game::load), Checks.outcome(plain::load));
        }
        for (int call = 1; call <= CALLS; call++) {
            Method method = FACE.get(random.nextInt(FACE.size()));
            boolean isRare = method.getName().equals("load") || method.getName().equals("clearText");
            if (isRare && random.nextInt(40) > 0) {
                continue;
            }
            Object[] values = arguments(method, game);
            Method other = PlainGame.class.getMethod(method.getName(), method.getParameterTypes());
            String told = method.getName() + java.util.Arrays.toString(values);
            same(number, call, told, answer(method, game, values), answer(other, plain, values));
            if (call % 16 == 0) {
                comparePictures(number, call, game, plain);
            }
        }
    }

    private static void same(int game, int call, String told, String got, String want) {
        CHECKS.same("game " + game + " call " + call + " " + told, got, want);
    }

    private static String answer(Method method, Object target, Object[] values) throws ReflectiveOperationException {
        try {
            return method.invoke(target, values).toString();
        } catch (InvocationTargetException e) {
            return e.getCause().getClass().getSimpleName();
        }
    }

    private static void comparePictures(int number, int call, RustRails game, PlainGame plain) {
        for (int what = 0; what <= 10; what++) {
            int w = what;
            same(number, call, "about " + w, Checks.outcome(() -> game.about(w)), Checks.outcome(() -> plain.about(w)));
            for (int first = 0; first < 16; first++) {
                int f = first;
                same(number, call, "track " + f + " " + w, Checks.outcome(() -> game.track(f, w)),
                        Checks.outcome(() -> plain.track(f, w)));
                same(number, call, "contract " + f + " " + w, Checks.outcome(() -> game.contract(f, w)),
                        Checks.outcome(() -> plain.contract(f, w)));
                same(number, call, "company " + f + " " + w, Checks.outcome(() -> game.company(f, w)),
                        Checks.outcome(() -> plain.company(f, w)));
                same(number, call, "train " + f + " " + w, Checks.outcome(() -> game.train(f / 4, f % 4, w)),
                        Checks.outcome(() -> plain.train(f / 4, f % 4, w)));
            }
        }
        int coins = 0;
        for (int i = 0; i < 4; i++) {
            coins += game.company(i, 0);
        }
        same(number, call, "all coins", Integer.toString(coins + game.about(5)), "0");
    }

    // ---- random texts and arguments

    private static String gameText() {
        int n = 2 + random.nextInt(random.nextBoolean() ? 3 : 8);
        StringBuilder text = new StringBuilder("R").append(n);
        int tracks = random.nextInt(17);
        int longest = 1 + random.nextInt(9);
        for (int t = 0; t < tracks; t++) {
            text.append("t").append(cities(n)).append(1 + random.nextInt(longest));
        }
        while (text.length() <= 94 && random.nextInt(9) > 0 && text.length() < 2 + 4 * tracks + 48) {
            int pay = 1 + random.nextInt(99);
            text.append("c").append(cities(n)).append(pay / 10).append(pay % 10).append(1 + random.nextInt(9));
        }
        return text.toString();
    }

    private static String cities(int n) {
        int a = random.nextInt(n);
        return "" + a + (a + 1 + random.nextInt(n - 1)) % n;
    }

    private static int mostly(int least, int most) {
        return random.nextInt(30) == 0 ? least - 1 + random.nextInt(most - least + 3)
                : least + random.nextInt(Math.max(1, most - least + 1));
    }

    private static Object[] arguments(Method method, RustRails game) {
        int n = game.about(0);
        int i = mostly(0, 3);
        int t = mostly(0, Math.max(0, game.about(1) - 1));
        int k = mostly(0, Math.max(0, game.about(2) - 1));
        int j = mostly(0, 2);
        switch (method.getName()) {
            case "append": return new Object[] {character()};
            case "about": return new Object[] {mostly(0, 10)};
            case "track": return new Object[] {t, mostly(0, 3)};
            case "company": return new Object[] {i, mostly(0, 6)};
            case "train": return new Object[] {i, j, mostly(0, 1)};
            case "contract": return new Object[] {k, mostly(0, 5)};
            case "buyTrack": return new Object[] {i, t};
            case "buyTrain": return new Object[] {i, mostly(1, Math.min(6, game.about(3) + 1))};
            case "setRent": return new Object[] {i, mostly(0, 9)};
            case "offer": return new Object[] {mostly(0, n - 1), mostly(0, n - 1), mostly(1, 99), mostly(1, 9)};
            case "take": case "levelFor": return new Object[] {i, k};
            case "run": case "whyNot": return new Object[] {k, j};
            case "way": return new Object[] {i, mostly(0, n - 1), mostly(0, n - 1), mostly(1, 24), mostly(0, 3)};
            case "bestContract": case "bankruptAfter": case "worth": return new Object[] {i};
            case "coinsAfter": return new Object[] {i, mostly(0, 50)};
            case "runScript": return script();
            case "simulate": return new Object[] {random.nextLong(), mostly(1, 50)};
            case "save": case "restore": return new Object[] {mostly(0, 1)};
            default: return new Object[0];
        }
    }

    private static int character() {
        String likely = "R23tc0123459tctc";
        return random.nextInt(9) == 0 ? mostly(0, 255) : likely.charAt(random.nextInt(likely.length()));
    }

    private static Object[] script() {
        int n = mostly(1, 3);
        long script = 0;
        for (int command = 0; command < n; command++) {
            script = script * 100000 + group();
        }
        return new Object[] {n, random.nextInt(30) == 0 ? random.nextLong() : script};
    }

    private static int group() {
        int i = 1000 * mostly(0, 3);
        switch (random.nextInt(11)) {
            case 1: return 10000 + i + random.nextInt(18);
            case 2: return 20000 + i + random.nextInt(8);
            case 3: return 30000 + i + random.nextInt(12);
            case 4: return 40000 + i + random.nextInt(9);
            case 5: return 50000 + 1000 * random.nextInt(9) + random.nextInt(4);
            case 6: return 60000 + (random.nextInt(9) == 0 ? 1 : 0);
            case 7: return 70000 + i + random.nextInt(200);
            case 8: return 80000 + random.nextInt(7);
            case 9: return 90000 + i + random.nextInt(5);
            case 10: return random.nextInt(100000);
            default: return 10000 * random.nextInt(10) + i + random.nextInt(10);
        }
    }
}
