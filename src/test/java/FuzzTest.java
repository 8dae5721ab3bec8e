/** Plays long runs of made-up calls, always the same ones, on the program and on the Oracle. */
public final class FuzzTest {
    private static final int RUNS = 1500, CALLS = 512;
    private static long seed;
    private static int wrong = 0;
    private static final int[] ODD = {-1, -2, 8, 9, 64, 65, 99, 100, 255, 256, 1000, Integer.MAX_VALUE, Integer.MIN_VALUE};
    private static final long[] seen = new long[42];

    private static int below(int n) {
        seed = seed * 6364136223846793005L + 1442695040888963407L;
        return (int) Math.floorMod(seed >>> 33, (long) n);
    }

    /** Mostly from 0 on, below n; now and then something else. */
    private static int some(int n) {
        int luck = below(60);
        return luck == 0 ? ODD[below(ODD.length)] : luck == 1 ? n : luck == 2 ? -1 : below(n);
    }

    private static HandsAndWays x;
    private static Oracle y;
    private static String call;
    private static int used;

    private static boolean same(int number, String told, long got, long due) {
        used = number;
        call = told + " answered " + got + ", due is " + due;
        return got == due;
    }

    private static boolean roomCall() {
        switch (below(6)) {
            case 0: case 1: { int c = some(64), is = below(4) == 0 ? some(2) : 1; return same(2, "wall(" + c + ", " + is + ")", x.wall(c, is), y.wall(c, is)); }
            case 2: { int c = some(64), k = below(2) == 0 ? -1 : some(8); return same(3, "door(" + c + ", " + k + ")", x.door(c, k), y.door(c, k)); }
            case 3: { int k = some(6), w = below(30) == 0 ? some(4) : 1 + below(2), c = some(64); return same(4, "thing(" + k + ", " + w + ", " + c + ")", x.thing(k, w, c), y.thing(k, w, c)); }
            case 4: { int h = some(2), c = some(64); return same(5, "hand(" + h + ", " + c + ")", x.hand(h, c), y.hand(h, c)); }
            default: { int n = below(3) == 0 ? some(101) : 15; return same(6, "strong(" + n + ")", x.strong(n), y.strong(n)); }
        }
    }

    /** A hand's place from which it could take a thing, so that takes come about. */
    private static int nearThing(int t) {
        int c = y.thingTold(t, 1), side = below(4), wide = y.thingTold(t, 6);
        if (c < 0) return some(64);
        return c + (side == 0 ? -8 : side == 1 ? wide : side == 2 ? 8 : -1);
    }

    private static boolean actCall() {
        int h = some(2);
        switch (below(7)) {
            case 0: { int c = some(64); return same(7, "go(" + h + ", " + c + ")", x.go(h, c), y.go(h, c)); }
            case 1: { int c = nearThing(below(8)); return same(7, "go(" + h + ", " + c + ")", x.go(h, c), y.go(h, c)); }
            case 2: case 3: case 4: { int t = some(8), s = some(4); return same(8, "take(" + h + ", " + t + ", " + s + ")", x.take(h, t, s), y.take(h, t, s)); }
            case 5: return below(3) > 0 || same(9, "put(" + h + ")", x.put(h), y.put(h));
            default: { int d = some(4); return same(10, "open(" + h + ", " + d + ")", x.open(h, d), y.open(h, d)); }
        }
    }

    /** Stands beside a thing from a side, and takes it. */
    private static boolean takeWell() {
        int h = below(2), t = below(8), side = below(4), wide = y.thingTold(t, 6), c = y.thingTold(t, 1);
        int at = c < 0 ? -1 : c + (side == 0 ? -8 : side == 1 ? wide : side == 2 ? 8 : -1);
        if (!same(7, "go(" + h + ", " + at + ")", x.go(h, at), y.go(h, at))) return false;
        return same(8, "take(" + h + ", " + t + ", " + side + ")", x.take(h, t, side), y.take(h, t, side));
    }

    private static boolean wayCall() {
        int h = some(2), c = some(64);
        switch (below(4)) {
            case 0: return same(11, "way(" + h + ", " + c + ")", x.way(h, c), y.way(h, c));
            case 1: { int i = below(10) == 0 ? some(20) : below(Math.max(1, y.way(h, c) + 1)); return same(12, "step(" + h + ", " + c + ", " + i + ")", x.step(h, c, i), y.step(h, c, i)); }
            case 2: { int i = some(2); return same(13, "reached(" + h + ", " + i + ")", x.reached(h, i), y.reached(h, i)); }
            default: return same(14, "barred(" + h + ", " + c + ")", x.barred(h, c), y.barred(h, c));
        }
    }

    private static boolean lookCall() {
        int a = some(8), b = some(8);
        switch (below(6)) {
            case 0: return same(15, "thingTold(" + a + ", " + b + ")", x.thingTold(a, b), y.thingTold(a, b));
            case 1: { int h = some(2); return same(16, "handTold(" + h + ", " + b + ")", x.handTold(h, b), y.handTold(h, b)); }
            case 2: { int w = some(4); return same(17, "kindTold(" + a + ", " + w + ", " + b + ")", x.kindTold(a, w, b), y.kindTold(a, w, b)); }
            case 3: { int c = some(64); return same(18, "cellTold(" + c + ")", x.cellTold(c), y.cellTold(c)); }
            case 4: { int d = some(4); return same(19, "isOpen(" + d + ")", x.isOpen(d), y.isOpen(d)); }
            default: return same(20, "count(" + b + ")", x.count(b), y.count(b));
        }
    }

    private static String someAct() {
        switch (below(9)) {
            case 0: case 1: return "g" + below(64) + ";";
            case 2: { int c = nearThing(below(8)); return "g" + (c < 0 || c > 63 ? below(64) : c) + ";"; }
            case 3: case 4: return "t" + below(8) + "nesw".charAt(below(4)) + ";";
            case 5: return "p;";
            case 6: return "o" + below(4) + ";";
            case 7: return "w" + below(6) + ";";
            default: { int t = below(8), side = below(4), c = y.thingTold(t, 1), w = y.thingTold(t, 6);
                int at = c + (side == 0 ? -8 : side == 1 ? w : side == 2 ? 8 : -1);
                return c < 0 || at < 0 || at > 63 ? "w1;" : "g" + at + ";t" + t + "nesw".charAt(side) + ";g" + below(64) + ";p;"; }
        }
    }

    private static boolean feedText(String text) {
        for (int i = 0; i < text.length(); i += 8) {
            int n = Math.min(8, text.length() - i);
            long w = below(2) == 0 ? 0 : -1;
            for (int k = 0; k < n; k++) w = w << 8 | text.charAt(i + k);
            if (!same(21, "feed(" + w + ", " + n + ")", x.feed(w, n), y.feed(w, n))) return false;
        }
        return true;
    }

    private static boolean tapeCall() {
        StringBuilder text = new StringBuilder();
        for (int i = 1 + below(4); i > 0; i--) text.append(someAct());
        int spoilt = below(4);
        if (spoilt == 0) text.setCharAt(below(text.length()), "gtpow0123456789;nesw \u00e9".charAt(below(22)));
        if (spoilt == 1 && below(8) == 0) for (int i = 0; i < 13; i++) text.insert(0, below(2) == 0 ? "p;" : "w07;");
        if (!feedText(text.toString())) return false;
        if (below(6) == 0) return true;
        return same(22, "program() of " + text, x.program(), y.program());
    }

    private static boolean programCall() {
        int h = some(2), p = some(6);
        switch (below(8)) {
            case 0: return tapeCall();
            case 1: { int n = some(10); long w = (long) below(1 << 30) << 34 ^ below(1 << 30); return below(6) > 0 || same(21, "feed(" + w + ", " + n + ")", x.feed(w, n), y.feed(w, n)); }
            case 2: { int i = some(13), what = some(5); return same(23, "actTold(" + p + ", " + i + ", " + what + ")", x.actTold(p, i, what), y.actTold(p, i, what)); }
            case 3: { int what = some(4) - 1; return same(24, "judge(" + h + ", " + p + ", " + what + ")", x.judge(h, p, what), y.judge(h, p, what)); }
            case 4: return same(25, "play(" + h + ", " + p + ")", x.play(h, p), y.play(h, p));
            case 5: return same(26, "start(" + h + ", " + p + ")", x.start(h, p), y.start(h, p));
            case 6: { int n = below(12) == 0 ? some(101) : below(8); return same(27, "run(" + n + ")", x.run(n), y.run(n)); }
            default: { int n = some(12); return same(28, "hangs(" + n + ")", x.hangs(n), y.hangs(n)); }
        }
    }

    private static boolean planCall() {
        switch (below(6)) {
            case 0: { int i = some(3), what = some(5); return same(30, "planned(" + i + ", " + what + ")", x.planned(i, what), y.planned(i, what)); }
            case 1: { int i = some(4); return same(31, "learnt(" + i + ")", x.learnt(i), y.learnt(i)); }
            default: {
                int h = some(2), a = some(8), to = some(64), m = some(256), s = some(4);
                return same(29, "plan(" + h + ", " + a + ", " + to + ", " + m + ", " + s + ")", x.plan(h, a, to, m, s), y.plan(h, a, to, m, s)) && allPlanned();
            }
        }
    }

    private static boolean allPlanned() {
        for (int i = 0; i < 3; i++) {
            for (int what = 0; what < 4; what++) {
                if (!same(30, call + ", then planned(" + i + ", " + what + ")", x.planned(i, what), y.planned(i, what))) return false;
            }
            if (!same(31, call + ", then learnt(" + i + ")", x.learnt(i), y.learnt(i))) return false;
        }
        return true;
    }

    private static boolean caseCall() {
        switch (below(5)) {
            case 0: case 1: { int t = below(3) > 0 ? 1 : some(8), c = some(64), s = some(100); return same(32, "maybe(" + t + ", " + c + ", " + s + ")", x.maybe(t, c, s), y.maybe(t, c, s)); }
            case 2: return below(5) > 0 || same(33, "sure()", x.sure(), y.sure());
            default: { int h = some(2), p = some(6), what = some(4); return same(34, "cases(" + h + ", " + p + ", " + what + ")", x.cases(h, p, what), y.cases(h, p, what)); }
        }
    }

    private static boolean imageCall() {
        if (below(3) > 0) return same(35, "image()", x.image(), y.image());
        return below(2) == 0 || same(36, "back()", x.back(), y.back());
    }

    private static boolean hostCall() {
        int s = some(4);
        switch (below(8)) {
            case 0: { int sort = some(4) - 1, n = below(8) == 0 ? some(42) : below(6); return same(37, "sheet(" + s + ", " + sort + ", " + n + ")", x.sheet(s, sort, n), y.sheet(s, sort, n)); }
            case 1: case 2: case 3: case 4: { int i = some(6), v = below(6) == 0 ? below(1 << 30) : below(64); if (below(9) == 0) v += 256 * below(300); return same(38, "cell(" + s + ", " + i + ", " + v + ")", x.cell(s, i, v), y.cell(s, i, v)); }
            case 5: { int o = some(4), i = some(4), j = some(4), n = some(5); return same(39, "copy(" + s + ", " + i + ", " + o + ", " + j + ", " + n + ")", x.copy(s, i, o, j, n), y.copy(s, i, o, j, n)); }
            case 6: { int sort = some(3), f = some(4), n = some(5); return same(40, "walls(" + s + ", " + sort + ", " + f + ", " + n + ")", x.walls(s, sort, f, n), y.walls(s, sort, f, n)); }
            default: { int c = some(64), k = some(6); return same(41, "taken(" + c + ", " + k + ")", x.taken(c, k), y.taken(c, k)); }
        }
    }

    private static boolean alike() {
        for (int t = 0; t < 8; t++) for (int what = 0; what < 7; what++) {
            if (!same(15, "thingTold(" + t + ", " + what + ")", x.thingTold(t, what), y.thingTold(t, what))) return false;
        }
        for (int h = 0; h < 2; h++) for (int what = 0; what < 6; what++) {
            if (!same(16, "handTold(" + h + ", " + what + ")", x.handTold(h, what), y.handTold(h, what))) return false;
        }
        for (int c = 0; c < 64; c++) {
            if (!same(18, "cellTold(" + c + ")", x.cellTold(c), y.cellTold(c))) return false;
        }
        for (int i = 0; i < 8; i++) {
            if (!same(20, "count(" + i + ")", x.count(i), y.count(i))) return false;
            if (!same(19, "isOpen(" + i + ")", x.isOpen(i), y.isOpen(i))) return false;
        }
        return true;
    }

    private static boolean anyCall(int style) {
        int luck = below(100);
        if (style % 3 == 0) luck = luck < 40 ? luck * 100 / 40 : below(2) == 0 ? 20 + below(40) : below(100);
        if (luck < (style % 4 == 0 ? 10 : 20)) return roomCall();
        if (luck < 30) return actCall();
        if (luck < 40) return takeWell();
        if (luck < 52) return wayCall();
        if (luck < 56) return lookCall();
        if (luck < 76) return programCall();
        if (luck < 82) return style % 5 < 3 ? planCall() : programCall();
        if (luck < 88) return caseCall();
        if (luck < 91) return imageCall();
        return hostCall();
    }

    /** Walls and things at the start: few in some runs, many in others. */
    private static boolean furnish(int style) {
        int walls = style % 7 * 4;
        for (int i = 0; i < walls; i++) {
            int c = below(64);
            if (!same(2, "wall(" + c + ", 1)", x.wall(c, 1), y.wall(c, 1))) return false;
        }
        for (int h = 0; h < 2; h++) {
            int c = below(64);
            if (!same(5, "hand(" + h + ", " + c + ")", x.hand(h, c), y.hand(h, c))) return false;
        }
        for (int i = style % 6; i > 0; i--) {
            int k = below(6), w = 1 + below(2), c = below(64);
            if (!same(4, "thing(" + k + ", " + w + ", " + c + ")", x.thing(k, w, c), y.thing(k, w, c))) return false;
        }
        return style % 2 == 0 || same(6, "strong(20)", x.strong(20), y.strong(20));
    }

    private static void playRun(int run) {
        seed = run * 7919L + 17;
        x = new HandsAndWays();
        y = new Oracle();
        boolean good = furnish(run);
        if (!good) used = 0;
        for (int i = 0; good && i < CALLS; i++) {
            used = 0;
            good = anyCall(run);
            seen[used]++;
            if (good && i % 8 == 0) good = alike();
        }
        noteEnd("" + run, good);
    }

    private static boolean wallsAround(int x0, int y0, int wide, int high) {
        for (int c = 0; c < 64; c++) {
            boolean inside = c % 8 >= x0 && c % 8 < x0 + wide && c / 8 >= y0 && c / 8 < y0 + high;
            int luck = below(12);
            if ((!inside || luck == 0) && !same(2, "wall(" + c + ", 1)", x.wall(c, 1), y.wall(c, 1))) return false;
        }
        return true;
    }

    private static boolean planIn(int x0, int y0, int wide, int high) {
        int n = 1 + below(5);
        if (!same(37, "sheet(0, 2, " + n + ")", x.sheet(0, 2, n), y.sheet(0, 2, n))) return false;
        for (int i = 0; i < n; i++) {
            int c = (y0 + below(high)) * 8 + x0 + below(wide);
            if (!same(38, "cell(0, " + i + ", " + c + ")", x.cell(0, i, c), y.cell(0, i, c))) return false;
        }
        int h = below(8) == 0 ? 1 : 0, a = below(4), m = below(256), to = (y0 + below(high)) * 8 + x0 + below(wide);
        return same(29, "plan(" + h + ", " + a + ", " + to + ", " + m + ", 0)", x.plan(h, a, to, m, 0), y.plan(h, a, to, m, 0)) && allPlanned();
    }

    /** Plans in narrow rooms, where things stand in the way of one another. */
    private static void playPlans(int run) {
        seed = run * 104729L + 5;
        x = new HandsAndWays();
        y = new Oracle();
        int wide = 3 + below(4), high = 2 + below(4), x0 = below(9 - wide), y0 = below(9 - high);
        boolean good = wallsAround(x0, y0, wide, high);
        for (int i = 0; good && i < 8; i++) {
            int c = (y0 + below(high)) * 8 + x0 + below(wide), k = below(6), w = 1 + below(5) / 4;
            if (i == 5 || i == 7) good = same(5, "hand(" + i % 5 / 2 + ", " + c + ")", x.hand(i % 5 / 2, c), y.hand(i % 5 / 2, c));
            else good = same(4, "thing(" + k + ", " + w + ", " + c + ")", x.thing(k, w, c), y.thing(k, w, c));
        }
        good = good && same(6, "strong(12)", x.strong(12), y.strong(12));
        for (int i = 0; good && i < 16; i++) {
            good = planIn(x0, y0, wide, high);
            int c = (y0 + below(high)) * 8 + x0 + below(wide);
            if (good) good = same(7, "go(0, " + c + ")", x.go(0, c), y.go(0, c));
        }
        noteEnd("plans " + run, good);
    }

    /** Takes a thing from where it may lie, by one program in several cases. */
    private static void playCases(int run) {
        seed = run * 15485863L + 3;
        x = new HandsAndWays();
        y = new Oracle();
        boolean good = furnish(1 + below(40)) && same(4, "thing(0, 1, 27)", x.thing(0, 1, 27), y.thing(0, 1, 27));
        int last = y.count(1) - 1;
        for (int i = 0; good && i < 30; i++) {
            int t = below(3) == 0 ? below(8) : last, c = below(64), s = 1 + below(99);
            if (below(12) == 0) good = same(33, "sure()", x.sure(), y.sure());
            if (below(3) == 0) c = 19 + below(16);
            if (good) good = same(32, "maybe(" + t + ", " + c + ", " + s + ")", x.maybe(t, c, s), y.maybe(t, c, s));
            int near = nearThing(t);
            String text = "g" + (below(2) == 0 && near >= 0 && near < 64 ? near : below(64)) + ";"
                    + (below(3) > 0 ? "" : "t" + Math.max(0, last) + "nesw".charAt(below(4)) + ";g" + below(64) + ";");
            if (good && below(3) == 0) good = feedText(text) && same(22, "program() of " + text, x.program(), y.program());
            for (int what = 0; good && what < 4; what++) {
                int p = below(6);
                good = same(34, "cases(0, " + p + ", " + what + ")", x.cases(0, p, what), y.cases(0, p, what));
            }
        }
        noteEnd("cases " + run, good && alike());
    }

    private static void noteEnd(String run, boolean good) {
        if (good) return;
        wrong++;
        if (wrong <= 20) System.out.println("run " + run + ": " + call);
    }

    public static void main(String[] args) {
        for (int run = 0; run < RUNS; run++) playRun(run);
        for (int run = 0; run < RUNS; run++) playPlans(run);
        for (int run = 0; run < RUNS; run++) playCases(run);
        if (args.length > 0) for (int i = 1; i < seen.length; i++) System.out.println("promise " + i + ": " + seen[i]);
        System.out.println(wrong == 0 ? "FuzzTest: all runs are alike" : "FuzzTest: " + wrong + " runs are not alike");
        if (wrong != 0) System.exit(1);
    }
}
