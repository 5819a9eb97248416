/** What the tests share: each compares answers with what is due, prints what differs, and ends with 1 if anything did. */
final class Checks {
    interface Call {
        long answer();
    }

    private int wrong;

    void due(String what, long want, Call call) {
        String got = outcome(call);
        if (!got.equals(Long.toString(want))) {
            report(what, got, Long.toString(want));
        }
    }

    void outOfBounds(String what, Call call) {
        refused(what, "IndexOutOfBoundsException", call);
    }

    void badArgument(String what, Call call) {
        refused(what, "IllegalArgumentException", call);
    }

    void badState(String what, Call call) {
        refused(what, "IllegalStateException", call);
    }

    /** The name of what the call throws must be just this: no exception class below it will do. */
    private void refused(String what, String exception, Call call) {
        String got = outcome(call);
        if (!got.equals(exception)) {
            report(what, got, exception);
        }
    }

    void same(String what, String got, String want) {
        if (!got.equals(want)) {
            report(what, got, want);
        }
    }

    static String outcome(Call call) {
        try {
            return Long.toString(call.answer());
        } catch (RuntimeException e) {
            return e.getClass().getSimpleName();
        }
    }

    private void report(String what, String got, String want) {
        wrong++;
        if (wrong <= 20) {
            System.out.println(what + ": " + got + ", due is " + want);
        }
    }

    void end() {
        System.out.println(wrong == 0 ? "all as due" : wrong + " not as due");
        if (wrong > 0) {
            System.exit(1);
        }
    }

    // ---- games

    static void type(RustRails game, String text) {
        game.clearText();
        for (int index = 0; index < text.length(); index++) {
            game.append(text.charAt(index));
        }
    }

    static RustRails gameOf(String text) {
        RustRails game = new RustRails();
        type(game, text);
        game.load();
        return game;
    }

    /** All that can be seen of a game without changing it. */
    static String picture(RustRails game) {
        StringBuilder lines = new StringBuilder();
        for (int what = 0; what <= 10; what++) {
            lines.append(game.about(what)).append(what < 10 ? " " : " | ");
        }
        for (int t = 0; t < game.about(1); t++) {
            for (int what = 0; what <= 3; what++) {
                lines.append(game.track(t, what)).append(what < 3 ? "," : " ");
            }
        }
        for (int i = 0; i < 4; i++) {
            lines.append("| ");
            for (int what = 0; what <= 6; what++) {
                lines.append(game.company(i, what)).append(" ");
            }
            for (int j = 0; j < game.company(i, 2); j++) {
                lines.append(game.train(i, j, 0)).append(game.train(i, j, 1) == 1 ? "! " : " ");
            }
        }
        lines.append("| ");
        for (int k = 0; k < game.about(2); k++) {
            for (int what = 0; what <= 5; what++) {
                lines.append(game.contract(k, what)).append(what < 5 ? "," : " ");
            }
        }
        return lines.toString();
    }
}
