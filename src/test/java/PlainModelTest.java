import java.lang.reflect.InvocationTargetException;
import java.lang.reflect.Method;
import java.util.ArrayList;
import java.util.Arrays;
import java.util.List;
import java.util.Map;
import java.util.TreeMap;

/**
 * Plays random games of 512 calls on a RustRails and a PlainGame: all answers and exceptions must be the same. Each
 * game is then played again on new objects, up to some of its calls: all that can be seen there must be the same, too.
 */
final class PlainModelTest {
    private static final int CALLS = 512;
    // with at most 183 looks at a whole game these come to the 512 calls
    private static final int LAST_PICTURE = 329;
    private static final int PICTURE_EACH = 47;

    private static final Checks CHECKS = new Checks();
    private static int greatestPhase;
    private static int mostRounds;
    private static int mostBankruptcies;
    private static int mostRusted;
    private static int mostRents;

    public static void main(String[] args) throws ReflectiveOperationException {
        CHECKS.due("methods of the face", 28, RandomCalls::countOfMethods);
        play(RandomCalls.Style.EVEN, 300);
        play(RandomCalls.Style.BUSY, 400);
        play(RandomCalls.Style.SLOW, 100);
        // the games are of use only if they get far
        CHECKS.due("greatest phase", 6, () -> greatestPhase);
        CHECKS.due("more than 300 rounds", 1, () -> mostRounds > 300 ? 1 : 0);
        CHECKS.due("more than 9 bankruptcies", 1, () -> mostBankruptcies > 9 ? 1 : 0);
        CHECKS.due("more than 9 rusted trains", 1, () -> mostRusted > 9 ? 1 : 0);
        CHECKS.due("more than 300 coins of rents", 1, () -> mostRents > 300 ? 1 : 0);
        CHECKS.end();
    }

    private static void play(RandomCalls.Style style, int games) throws ReflectiveOperationException {
        for (int game = 0; game < games; game++) {
            play(style, game, style + " game " + game);
        }
    }

    private static void play(RandomCalls.Style style, int seed, String told) throws ReflectiveOperationException {
        RustRails game = new RustRails();
        PlainGame plain = new PlainGame();
        RandomCalls random = new RandomCalls(style, seed, plain);
        List<RandomCalls.Call> made = new ArrayList<>();
        Map<Integer, String> pictures = new TreeMap<>();
        while (made.size() < CALLS) {
            RandomCalls.Call call = random.next();
            made.add(call);
            CHECKS.same(told + " call " + made.size() + " " + call, answer(game, call), answer(plain, call));
            if (made.size() % PICTURE_EACH == 0 && made.size() <= LAST_PICTURE) {
                pictures.put(made.size(), picture(plain));
            }
        }
        noteHowFar(plain);
        for (int count : pictures.keySet()) {
            CHECKS.same(told + " after call " + count, pictureAfter(made.subList(0, count)), pictures.get(count));
        }
    }

    private static void noteHowFar(PlainGame plain) {
        greatestPhase = Math.max(greatestPhase, plain.about(3));
        mostRounds = Math.max(mostRounds, plain.about(4));
        mostRents = Math.max(mostRents, plain.about(6));
        mostBankruptcies = Math.max(mostBankruptcies, plain.about(9));
        mostRusted = Math.max(mostRusted, plain.about(10));
    }

    private static String answer(Object target, RandomCalls.Call call) throws ReflectiveOperationException {
        Method method = target.getClass().getMethod(call.method().getName(), call.method().getParameterTypes());
        try {
            return method.invoke(target, call.values()).toString();
        } catch (InvocationTargetException e) {
            return e.getCause().getClass().getSimpleName();
        }
    }

    // ---- all that can be seen

    private static String pictureAfter(List<RandomCalls.Call> calls) throws ReflectiveOperationException {
        RustRails game = new RustRails();
        for (RandomCalls.Call call : calls) {
            answer(game, call);
        }
        return picture(game);
    }

    private static String picture(Object game) throws ReflectiveOperationException {
        StringBuilder seen = new StringBuilder();
        int[] numbers = look(game, seen, 11, "about");
        for (int t = 0; t < numbers[1]; t++) {
            look(game, seen, 4, "track", t);
        }
        for (int k = 0; k < numbers[2]; k++) {
            look(game, seen, 6, "contract", k);
        }
        int coins = numbers[5];
        for (int i = 0; i < 4; i++) {
            int[] company = look(game, seen, 7, "company", i);
            coins += company[0];
            for (int j = 0; j < company[2]; j++) {
                look(game, seen, 2, "train", i, j);
            }
        }
        CHECKS.same("all coins of " + seen, Integer.toString(coins), "0");
        return seen.toString();
    }

    private static int[] look(Object game, StringBuilder seen, int count, String name, Object... which)
            throws ReflectiveOperationException {
        int[] numbers = new int[count];
        Object[] values = Arrays.copyOf(which, which.length + 1);
        for (int what = 0; what < count; what++) {
            values[which.length] = what;
            numbers[what] = Integer.parseInt(answer(game, RandomCalls.call(name, values)));
        }
        seen.append(name).append(Arrays.toString(which)).append(Arrays.toString(numbers)).append(' ');
        return numbers;
    }
}
