import java.lang.reflect.InvocationTargetException;
import java.lang.reflect.Method;
import java.util.ArrayList;
import java.util.List;

/**
 * The edges of the arguments of all calls: the least and the greatest value that will do, the first ones that will
 * not, and which exception comes if several apply.
 */
final class EdgesOfArgumentsTest {
    private static final String SEVERAL =
            "If several exceptions apply to a call, the one that its description names first is thrown.";
    private static final String UNCHANGED = "A call that throws an exception changes nothing.";
    private static final String NO_SUCH = "Throws `IndexOutOfBoundsException` if there is no such ";
    private static final String BAD = "Throws `IllegalArgumentException` if ";

    /** An argument that will do from least to most; usual is the value that it has while others are tried. */
    private record Argument(long least, long usual, long most, String exception) {
        boolean isBad(long value) {
            return value < least || value > most;
        }
    }

    private record Row(int promise, Method method, Argument[] arguments, String[] words) {
    }

    private final Edges edges;
    private final Edges.Recipe recipe;
    private final boolean isClosed;
    private final RustRails sample;

    private EdgesOfArgumentsTest(Edges edges, Edges.Recipe recipe, boolean isClosed) {
        this.edges = edges;
        this.recipe = recipe;
        this.isClosed = isClosed;
        this.sample = recipe.game();
    }

    public static void main(String[] args) {
        Edges.test(EdgesOfArgumentsTest::all);
    }

    static void all(Edges edges) {
        new EdgesOfArgumentsTest(edges, Games::young, false).rows();
        new EdgesOfArgumentsTest(edges, Games::old, false).rows();
        new EdgesOfArgumentsTest(edges, Games::closed, true).rows();
    }

    private void rows() {
        for (Row row : table()) {
            edges.promise(row.promise, row.words);
            lastThatDo(row);
            farthest(row);
            edges.terms("EXCEPTIONS", SEVERAL, UNCHANGED,
                    "IllegalArgumentException means that another argument is out of its range.");
            allThatDoNot(row, usual(row), 0);
            if (isClosed && throwsState(row.method)) {
                edges.terms("EXCEPTIONS", "IllegalStateException means what the method says.");
                refused(row, usual(row), Edges.NOT_NOW);
            }
        }
        sameCities();
    }

    // ---- what the calls take

    private List<Row> table() {
        Argument i = noSuch(0, 3, 3);
        Argument t = noSuch(0, 0, sample.about(1) - 1);
        Argument k = noSuch(0, 0, sample.about(2) - 1);
        Argument a = noSuch(0, 1, sample.about(0) - 1);
        Argument b = noSuch(0, 2, sample.about(0) - 1);
        Argument slot = noSuch(0, 0, 1);
        Argument trainOfCompany = noSuch(0, 0, sample.company(3, 2) - 1);
        Argument trainOfHolder = noSuch(0, 0, sample.company(sample.contract(0, 4), 2) - 1);
        String noTrainOfHolder = NO_SUCH + "contract, or it has a holder that has no such train";
        List<Row> rows = new ArrayList<>();
        rows.add(row(2, "append", list(range(0, 'R', 255)), BAD + "c is out of range", "`c`: character code, 0 to 255"));
        rows.add(row(6, "about", list(range(0, 5, 10)), BAD + "what is not 0 to 10"));
        rows.add(row(7, "track", list(t, range(0, 2, 3)), NO_SUCH + "track", BAD + "what is not 0 to 3"));
        rows.add(row(8, "company", list(i, range(0, 2, 6)), NO_SUCH + "company", BAD + "what is not 0 to 6",
                "`i`: company, 0 to 3"));
        rows.add(row(9, "train", list(i, trainOfCompany, range(0, 0, 1)), NO_SUCH + "company or train",
                BAD + "what is not 0 or 1", "`i`: company, 0 to 3", "`j`: train of this company"));
        rows.add(row(10, "contract", list(k, range(0, 2, 5)), NO_SUCH + "contract", BAD + "what is not 0 to 5"));
        rows.add(row(11, "buyTrack", list(i, t), NO_SUCH + "company or track", "`i`: company, 0 to 3"));
        rows.add(row(12, "buyTrain", list(i, range(1, 1, 6)), NO_SUCH + "company", BAD + "level is out of range",
                "`i`: company, 0 to 3", "`level`: 1 to 6"));
        rows.add(row(13, "setRent", list(i, range(0, 5, 9)), NO_SUCH + "company", BAD + "rent is out of range",
                "`i`: company, 0 to 3", "`rent`: 0 to 9"));
        rows.add(row(14, "offer", list(a, b, range(1, 50, 99), range(1, 5, 9)), NO_SUCH + "city",
                "pay or rounds is out of range", "`pay`: 1 to 99", "`rounds`: 1 to 9"));
        rows.add(row(15, "take", list(i, k), NO_SUCH + "company or contract", "`i`: company, 0 to 3"));
        rows.add(row(16, "run", list(k, trainOfHolder), noTrainOfHolder, "`j`: train of its holder"));
        rows.add(row(19, "way", list(i, a, b, range(1, 9, 24), range(0, 0, 3)), NO_SUCH + "company or city",
                "or reach or what is out of range", "`i`: company, 0 to 3", "`reach`: 1 to 24"));
        rows.add(row(20, "whyNot", list(k, trainOfHolder), noTrainOfHolder, "`j`: train of its holder"));
        rows.add(row(21, "levelFor", list(i, k), NO_SUCH + "company or contract", "`i`: company, 0 to 3"));
        rows.add(row(22, "bestContract", list(i), NO_SUCH + "company", "`i`: company, 0 to 3"));
        rows.add(row(23, "coinsAfter", list(i, range(0, 5, 50)), NO_SUCH + "company", BAD + "m is out of range",
                "`i`: company, 0 to 3", "`m`: number of rounds, 0 to 50"));
        rows.add(row(24, "bankruptAfter", list(i), NO_SUCH + "company", "`i`: company, 0 to 3"));
        rows.add(row(25, "worth", list(i), NO_SUCH + "company", "`i`: company, 0 to 3"));
        rows.add(row(26, "runScript", list(range(1, 2, 3), range(0, 60000, 9999999999L)),
                BAD + "n is out of range, or if script is negative or has more than 5 * n digits",
                "`n`: number of commands, 1 to 3"));
        rows.add(row(27, "simulate", list(range(Long.MIN_VALUE, 1, Long.MAX_VALUE), range(1, 5, 50)),
                BAD + "m is out of range", "`seed`: any long", "`m`: number of rounds, 1 to 50"));
        rows.add(row(28, "save", list(slot), "Throws `IndexOutOfBoundsException` if there is no such save slot",
                "`slot`: 0 or 1"));
        rows.add(row(29, "restore", list(slot), "Throws `IndexOutOfBoundsException` if there is no such save slot",
                "`slot`: 0 or 1"));
        return rows;
    }

    private static Argument noSuch(long least, long usual, long most) {
        return new Argument(least, usual, most, Edges.NO_SUCH);
    }

    private static Argument range(long least, long usual, long most) {
        return new Argument(least, usual, most, Edges.OUT_OF_RANGE);
    }

    private static Argument[] list(Argument... arguments) {
        return arguments;
    }

    private static Row row(int promise, String name, Argument[] arguments, String... words) {
        for (Method method : RustRails.class.getDeclaredMethods()) {
            if (method.getName().equals(name)) {
                return new Row(promise, method, arguments, words);
            }
        }
        throw new IllegalArgumentException(name);
    }

    // ---- what is tried

    private void lastThatDo(Row row) {
        for (int place = 0; place < row.arguments.length; place++) {
            for (long value : new long[] {row.arguments[place].least, row.arguments[place].most}) {
                long[] values = with(row, place, value);
                String got = Edges.outcome(recipe.game(), game -> call(game, row, values));
                boolean isTaken = !got.equals(Edges.NO_SUCH) && !got.equals(Edges.OUT_OF_RANGE);
                edges.same(told(row, values), isTaken ? "taken" : got, "taken");
            }
        }
    }

    /** Values that are farther out than all others. */
    private void farthest(Row row) {
        for (int place = 0; place < row.arguments.length; place++) {
            boolean isLong = row.method.getParameterTypes()[place] == long.class;
            long[] ends = isLong ? new long[] {Long.MIN_VALUE, Long.MAX_VALUE}
                    : new long[] {Integer.MIN_VALUE, Integer.MAX_VALUE};
            for (long value : ends) {
                if (row.arguments[place].isBad(value)) {
                    refused(row, with(row, place, value), row.arguments[place].exception);
                }
            }
        }
    }

    /** All rows of values that will do, are too small by one or too large by one, each of the others' exceptions, too. */
    private void allThatDoNot(Row row, long[] values, int place) {
        if (place == row.arguments.length) {
            String exception = firstException(row, values);
            if (!exception.isEmpty()) {
                refused(row, values, exception);
            }
            return;
        }
        Argument argument = row.arguments[place];
        for (long value : new long[] {argument.usual, argument.least - 1, argument.most + 1}) {
            values[place] = value;
            allThatDoNot(row, values, place + 1);
        }
        values[place] = argument.usual;
    }

    /** In all descriptions, what does not exist stands before what is out of range. */
    private static String firstException(Row row, long[] values) {
        String first = "";
        for (int place = 0; place < values.length; place++) {
            if (row.arguments[place].isBad(values[place]) && !first.equals(Edges.NO_SUCH)) {
                first = row.arguments[place].exception;
            }
        }
        return first;
    }

    private void sameCities() {
        edges.promise(14, "if a and b are the same", "`b`: another city");
        for (int city = 0; city < sample.about(0); city++) {
            int same = city;
            edges.refuses("offer " + city, Edges.OUT_OF_RANGE, recipe, game -> game.offer(same, same, 50, 5));
        }
        edges.refuses("offer 4 4", Edges.NO_SUCH, recipe, game -> game.offer(4, 4, 50, 5));
        edges.promise(19, "if a and b are the same", "`b`: another city");
        for (int city = 0; city < sample.about(0); city++) {
            int same = city;
            edges.refuses("way " + city, Edges.OUT_OF_RANGE, recipe, game -> game.way(0, same, same, 9, 0));
        }
        edges.refuses("way 4 4", Edges.NO_SUCH, recipe, game -> game.way(0, 4, 4, 9, 0));
        edges.refuses("way 1 1 of company 4", Edges.NO_SUCH, recipe, game -> game.way(4, 1, 1, 9, 0));
    }

    private void refused(Row row, long[] values, String exception) {
        edges.refuses(told(row, values), exception, recipe, game -> call(game, row, values));
    }

    // ---- calls

    private static boolean throwsState(Method method) {
        for (Class<?> type : method.getExceptionTypes()) {
            if (type == IllegalStateException.class) {
                return true;
            }
        }
        return false;
    }

    private static long[] usual(Row row) {
        long[] values = new long[row.arguments.length];
        for (int place = 0; place < values.length; place++) {
            values[place] = row.arguments[place].usual;
        }
        return values;
    }

    private static long[] with(Row row, int place, long value) {
        long[] values = usual(row);
        values[place] = value;
        return values;
    }

    private static String told(Row row, long[] values) {
        return row.method.getName() + java.util.Arrays.toString(values);
    }

    private static int call(RustRails game, Row row, long[] values) {
        Object[] given = new Object[values.length];
        for (int place = 0; place < values.length; place++) {
            boolean isLong = row.method.getParameterTypes()[place] == long.class;
            given[place] = isLong ? (Object) values[place] : (Object) (int) values[place];
        }
        try {
            return (Integer) row.method.invoke(game, given);
        } catch (InvocationTargetException e) {
            throw (RuntimeException) e.getCause();
        } catch (IllegalAccessException e) {
            throw new IllegalStateException(e);
        }
    }
}
