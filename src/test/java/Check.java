/** What the tests share: a count of wrong answers, and short ways to set a room up. */
final class Check {
    private static int wrong = 0, asked = 0;

    private Check() {
    }

    static void due(String what, long got, long want) {
        asked++;
        if (got == want) return;
        wrong++;
        System.out.println(what + " answered " + got + ", due is " + want);
    }

    /** Feeds a text, eight bytes a call. */
    static void feed(HandsAndWays x, String text) {
        for (int i = 0; i < text.length(); i += 8) {
            int n = Math.min(8, text.length() - i);
            long w = 0;
            for (int k = 0; k < n; k++) w = w << 8 | text.charAt(i + k);
            x.feed(w, n);
        }
    }

    static int program(HandsAndWays x, String text) {
        feed(x, text);
        return x.program();
    }

    /** A sheet of ints with these numbers. */
    static void sheet(HandsAndWays x, int s, int... numbers) {
        x.sheet(s, 2, numbers.length);
        for (int i = 0; i < numbers.length; i++) x.cell(s, i, numbers[i]);
    }

    /** Walls everywhere but in the cells that are drawn as something else than #. */
    static HandsAndWays room(String... rows) {
        HandsAndWays x = new HandsAndWays();
        for (int c = 0; c < 64; c++) {
            boolean open = c / 8 < rows.length && c % 8 < rows[c / 8].length() && rows[c / 8].charAt(c % 8) != '#';
            if (!open) x.wall(c, 1);
        }
        return x;
    }

    static void end(String test) {
        System.out.println(test + ": " + asked + " answers, " + wrong + " wrong");
        if (wrong != 0) System.exit(1);
    }
}
