/** What the tests share: a count of wrong answers, and short ways to set a room up. */
final class Check {
    /** Makes a room as a test wants it, the same one each time. */
    interface Maker {
        HandsAndWays make();
    }

    interface Call {
        int on(HandsAndWays x);
    }

    /** A call of which one number is asked for. */
    interface CallOf {
        int on(HandsAndWays x, int n);
    }

    private static int wrong = 0, asked = 0;

    private Check() {
    }

    static void due(String what, long got, long want) {
        asked++;
        if (got == want) return;
        wrong++;
        System.out.println(what + " answered " + got + ", due is " + want);
    }

    /** A call that is refused, on a room of its own: what can be told is then as in a room without it. */
    static void refused(String what, Maker room, Call call, int want) {
        HandsAndWays x = room.make();
        due(what, call.on(x), want);
        due(what + " changes nothing, but for what is told as number", Told.firstUnlike(x, room.make()), -1);
    }

    /** The numbers from least to greatest are taken; what lies on each side of them, near and far, is refused. */
    static void span(String what, Maker room, CallOf call, int least, int greatest, int refusal) {
        above(what, room, call, greatest, refusal);
        below(what, room, call, least, refusal);
    }

    static void above(String what, Maker room, CallOf call, int greatest, int refusal) {
        taken(what, room, call, greatest, refusal);
        for (int n : new int[] {greatest + 1, Integer.MAX_VALUE}) {
            refused(what + " above, of " + n, room, x -> call.on(x, n), refusal);
        }
    }

    static void below(String what, Maker room, CallOf call, int least, int refusal) {
        taken(what, room, call, least, refusal);
        for (int n : new int[] {least - 1, Integer.MIN_VALUE}) {
            refused(what + " below, of " + n, room, x -> call.on(x, n), refusal);
        }
    }

    private static void taken(String what, Maker room, CallOf call, int n, int refusal) {
        int got = call.on(room.make(), n);
        due(what + " of " + n + " is taken (" + got + ")", got == refusal ? 1 : 0, 0);
    }

    /** Feeds a text, eight bytes a call. */
    static void feed(HandsAndWays x, String text) {
        for (int i = 0; i < text.length(); i += 8) {
            int n = Math.min(8, text.length() - i);
            long w = 0;
            for (int k = 0; k < n; k++) w = w << 8 | text.charAt(i + k);
            x.feed(w, n);
        }
    }

    static int program(HandsAndWays x, String text) {
        feed(x, text);
        return x.program();
    }

    /** A sheet of ints with these numbers. */
    static void sheet(HandsAndWays x, int s, int... numbers) {
        x.sheet(s, 2, numbers.length);
        for (int i = 0; i < numbers.length; i++) x.cell(s, i, numbers[i]);
    }

    /** Walls everywhere but in the cells that are drawn as something else than #. */
    static HandsAndWays room(String... rows) {
        HandsAndWays x = new HandsAndWays();
        for (int c = 0; c < 64; c++) {
            boolean open = c / 8 < rows.length && c % 8 < rows[c / 8].length() && rows[c / 8].charAt(c % 8) != '#';
            if (!open) x.wall(c, 1);
        }
        return x;
    }

    static void end(String test) {
        System.out.println(test + ": " + asked + " answers, " + wrong + " wrong");
        if (wrong != 0) System.exit(1);
    }
}
