/** The edges that the document names: of programs and THE TAPE (Terms, part 2), and of promises 21 to 25. */
public final class ProgramEdgesTest {
    private static void due(String what, long got, long want) { Check.due(what, got, want); }

    private static void refused(String what, Check.Call call, int want) {
        Check.refused(what, ProgramEdgesTest::furnished, call, want);
    }

    /** Three programs; hand 1 is there, hand 0 is not; some bytes are on the tape. */
    private static HandsAndWays furnished() {
        HandsAndWays x = new HandsAndWays();
        x.thing(0, 1, 9);
        x.hand(1, 0);
        Check.program(x, "g1;");
        Check.program(x, "w2;g63;t0w;p;");
        Check.program(x, "w7;w8;");
        Check.feed(x, "g5");
        return x;
    }

    private static HandsAndWays sixPrograms() {
        HandsAndWays x = furnished();
        Check.feed(x, ";");
        x.program();
        Check.program(x, "p;p;");
        Check.program(x, "p;p;p;p;p;p;p;p;p;p;p;p;");
        return x;
    }

    /** A tape of so many bytes, all of them 0. */
    private static Check.Maker tapeOf(int n) {
        return () -> {
            HandsAndWays x = new HandsAndWays();
            for (int left = n; left > 0; left -= 8) x.feed(0, Math.min(8, left));
            return x;
        };
    }

    /** Promise 21: "BAD: n not 1 .. 8; FULL"; "THE TAPE (120 bytes at most)". */
    private static void feedTakesBytes() {
        Check.span("feed: n", ProgramEdgesTest::furnished, (x, n) -> x.feed(-1, n), 1, 8, -2);
        for (int n = 1; n <= 8; n++) {
            int k = n;
            due("feed: " + n + " come", new HandsAndWays().feed(0, n), n);
            due("feed: " + n + " fill it", tapeOf(120 - n).make().feed(0, n), 120);
            Check.refused("feed: " + n + " are one too many", tapeOf(121 - n), x -> x.feed(0, k), -4);
            Check.refused("feed: " + n + " on a full one", tapeOf(120), x -> x.feed(0, k), -4);
        }
        Check.refused("feed: BAD ahead of FULL", tapeOf(120), x -> x.feed(0, 9), -2);
        Check.refused("feed: 0 on a full one", tapeOf(120), x -> x.feed(0, 0), -2);
        due("feed: none at first", new HandsAndWays().count(4), 0);
    }

    /** Promise 21: "The n lowest bytes of w, the highest first": of numbers below 0, of the least and the greatest. */
    private static void feedTakesTheLowestBytes() {
        String text = "g1;w99;p";
        long w = 0;
        for (int k = 0; k < 8; k++) w = w << 8 | text.charAt(k);
        HandsAndWays x = new HandsAndWays();
        x.feed(w, 8);
        x.feed(-1L << 8 | ';', 1);
        due("bytes: all eight", x.program(), 0);
        due("bytes: three acts", x.actTold(0, 0, 3), 3);
        due("bytes: the second's number", x.actTold(0, 1, 1), 99);
        for (int n = 1; n <= 8; n++) {
            HandsAndWays y = new HandsAndWays();
            y.feed('g', 1);
            y.feed('5', 1);
            y.feed(n == 8 ? Long.MAX_VALUE : (1L << 8 * n) - 1, n);
            due("bytes: " + n + " of 255 are none that is known", y.program(), -102);
        }
        HandsAndWays z = new HandsAndWays();
        z.feed(Long.MIN_VALUE | 'p', 1);
        z.feed(Long.MAX_VALUE - 255 + ';', 1);
        due("bytes: just the lowest", z.program(), 0);
        HandsAndWays v = new HandsAndWays();
        v.feed('p' + 256, 2);
        due("bytes: the highest first", v.program(), -100);
        for (int high = 128; high < 256; high += 64) {
            HandsAndWays u = new HandsAndWays();
            u.feed(high, 1);
            due("bytes: " + high + " is no act", u.program(), -100);
        }
    }

    /** Whether what is told is a program (-1), or the place of its fault. */
    private static void read(String text, int place) {
        HandsAndWays x = new HandsAndWays();
        due("program: " + text, Check.program(x, text), place < 0 ? 0 : -100 - place);
        due("program: " + text + " leaves the tape empty", x.count(4), 0);
        due("program: " + text + " counted", x.count(3), place < 0 ? 1 : 0);
        due("program: " + text + " told", x.actTold(0, 0, 3) == -5 ? 1 : 0, place < 0 ? 0 : 1);
    }

    /** "g and a CELL and ;", "a THING (0 .. 7)", "a DOOR (0 .. 3)", "a number (0 .. 99)", "1 or 2 digits". */
    private static void numbersOfActs() {
        char[] letters = {'g', 'o', 'w'};
        int[] most = {63, 3, 99};
        for (int k = 0; k < 3; k++) {
            for (int n = 0; n < 100; n++) {
                boolean oneIsTooGreat = n / 10 > most[k];
                int place = n <= most[k] ? -1 : oneIsTooGreat || n < 10 ? 1 : 2;
                read(letters[k] + (n < 10 ? "" + n : "" + n / 10 + n % 10) + ";", place);
                if (n < 10) read(letters[k] + "0" + n + ";", n <= most[k] ? -1 : 2);
            }
            read(letters[k] + "000;", 3);
            read(letters[k] + ";", 1);
            read(letters[k] + "-1;", 1);
            read(letters[k] + "1:", 2);
            read(letters[k] + "1n;", 2);
        }
        for (int n = 0; n < 100; n++) {
            read("t" + n + "n;", n <= 7 ? -1 : n < 10 || n >= 80 ? 1 : 2);
            if (n < 10) read("t0" + n + "w;", n <= 7 ? -1 : 2);
        }
        read("w100;", 3);
        read("t000n;", 3);
        read("g063;", 3);
    }

    /** "and a side (n e s w)": each byte behind a thing; and each byte where an act could begin, or end. */
    private static void signsOfActs() {
        for (int b = 0; b < 256; b++) {
            char c = (char) b;
            read("t7" + c + ";", "nesw".indexOf(c) >= 0 ? -1 : 2);
            read("p" + c, c == ';' ? -1 : 1);
            read("p;" + c, "gtpow".indexOf(c) >= 0 ? 3 : 2);
            read("g0" + c, c == ';' ? -1 : c >= '0' && c <= '9' ? 3 : 2);
            read("o0" + c + ";", c >= '0' && c <= '3' ? -1 : c == ';' ? 3 : 2);
        }
    }

    /** "how many there are, if it ends too early"; "a 13th ACT's letter, too"; "ACTS .. 1 to 12". */
    private static void endsOfPrograms() {
        read("", 0);
        String all = "g63;t07n;p;o3;w99;";
        for (int n = 0; n <= all.length(); n++) {
            String text = all.substring(0, n);
            read(text, n > 0 && text.charAt(n - 1) == ';' ? -1 : n);
        }
        StringBuilder text = new StringBuilder();
        for (int acts = 1; acts <= 13; acts++) {
            text.append("w").append(acts).append(";");
            read(text.toString(), acts <= 12 ? -1 : text.length() - 4);
        }
        String twelve = "t07n;t07n;t07n;t07n;t07n;t07n;t07n;t07n;t07n;t07n;t07n;t07n;";
        read(twelve, -1);
        read(twelve + "g", 60);
        read(twelve + ";", 60);
        read(twelve + "\u0000", 60);
        read(twelve.substring(0, 59), 59);
        read(twelve + twelve, 60);
    }

    /** "6 at most, numbered from 0 on"; "FULL (ahead of the FAULT; then THE TAPE stays)". */
    private static void programsAreSixAtMost() {
        HandsAndWays x = new HandsAndWays();
        for (int p = 0; p < 6; p++) {
            due("six: a fault takes no number", Check.program(x, "q"), -100);
            due("six: program " + p, Check.program(x, "w" + p + ";"), p);
        }
        for (int p = 0; p < 6; p++) due("six: each its own, " + p, x.actTold(p, 0, 1), p);
        Check.refused("six: FULL", ProgramEdgesTest::sixPrograms, y -> y.program(), -4);
        Check.Maker faulty = () -> {
            HandsAndWays y = sixPrograms();
            Check.feed(y, "q");
            return y;
        };
        Check.refused("six: FULL ahead of a fault", faulty, y -> y.program(), -4);
        Check.Maker good = () -> {
            HandsAndWays y = sixPrograms();
            Check.feed(y, "p;");
            return y;
        };
        Check.refused("six: FULL ahead of what is good", good, y -> y.program(), -4);
        due("six: the tape goes on", good.make().feed('p', 1), 3);
    }

    /** "THE TAPE, which is empty then (by a FAULT, too)": what comes behind begins anew. */
    private static void theTapeIsEmptyThen() {
        HandsAndWays x = furnished();
        due("tape: ended too early", x.program(), -102);
        due("tape: is empty", x.count(4), 0);
        due("tape: begins anew", x.feed('p', 1), 1);
        x.feed(';', 1);
        due("tape: a program", x.program(), 3);
        due("tape: is empty again", x.program(), -100);
        due("tape: has one act", x.actTold(3, 0, 3), 1);
        due("tape: full and faulty", tapeOf(120).make().program(), -100);
        HandsAndWays y = tapeOf(120).make();
        y.program();
        due("tape: takes bytes again", y.feed(0, 8), 8);
    }

    /** Promise 23: "-5: PROGRAM; -7: i, what"; "3 how many ACTS there are (i does not matter)". */
    private static void actToldTakesNumbers() {
        Check.Maker six = ProgramEdgesTest::sixPrograms;
        for (int what = 0; what < 4; what++) {
            int w = what;
            Check.span("actTold: program, " + w, six, (x, n) -> x.actTold(n, 0, w), 0, 5, -5);
            if (w < 3) Check.span("actTold: i, " + w, six, (x, n) -> x.actTold(5, n, w), 0, 11, -7);
            if (w < 3) Check.span("actTold: i of one, " + w, six, (x, n) -> x.actTold(0, n, w), 0, 0, -7);
        }
        Check.span("actTold: what", six, (x, n) -> x.actTold(5, 11, n), 0, 3, -7);
        refused("actTold: -5 ahead of -7", x -> x.actTold(3, 99, 4), -5);
        refused("actTold: -5, however many", x -> x.actTold(3, 0, 3), -5);
        int[] any = {Integer.MIN_VALUE, -1, 4, 12, Integer.MAX_VALUE};
        for (int i : any) due("actTold: how many, i " + i, furnished().actTold(1, i, 3), 4);
        due("actTold: no program", new HandsAndWays().actTold(0, 0, 0), -5);
    }

    /** Promise 23: "1 its number (0: it has none), 2 its side (0: it has none)": also behind an act that had them. */
    private static void actsWithoutNumberOrSide() {
        HandsAndWays x = new HandsAndWays();
        Check.program(x, "t7w;p;t6s;g63;o3;w99;");
        int[][] acts = {{1, 7, 3}, {2, 0, 0}, {1, 6, 2}, {0, 63, 0}, {3, 3, 0}, {4, 99, 0}};
        for (int i = 0; i < 6; i++) {
            for (int what = 0; what < 3; what++) due("act: " + i + ", " + what, x.actTold(0, i, what), acts[i][what]);
        }
        HandsAndWays y = new HandsAndWays();
        Check.program(y, "t7w;t7w;x");
        Check.program(y, "p;g0;");
        due("act: what a fault left is gone, number", y.actTold(0, 0, 1), 0);
        due("act: what a fault left is gone, side", y.actTold(0, 0, 2), 0);
        due("act: what a fault left is gone, second side", y.actTold(0, 1, 2), 0);
    }

    /** Promise 24: "-5: HAND, PROGRAM; -7: what". */
    private static void judgeTakesNumbers() {
        Check.span("judge: hand", ProgramEdgesTest::furnished, (x, n) -> x.judge(n, 2, 0), 0, 1, -5);
        Check.span("judge: program", ProgramEdgesTest::sixPrograms, (x, n) -> x.judge(1, n, 0), 0, 5, -5);
        Check.span("judge: what", ProgramEdgesTest::furnished, (x, n) -> x.judge(1, 0, n), -1, 2, -7);
        refused("judge: -5 of the hand ahead of -7", x -> x.judge(2, 0, 3), -5);
        refused("judge: -5 of the program ahead of -7", x -> x.judge(1, 3, -2), -5);
        due("judge: no program", new HandsAndWays().judge(0, 0, 0), -5);
    }

    private static void judged(HandsAndWays x, int h, String text, int... dues) {
        int p = Check.program(x, text);
        for (int what = -1; what <= 2; what++) due("judge: " + text + " what " + what, x.judge(h, p, what), dues[what + 1]);
    }

    /** Promise 24: "which ACT FAILS (-1: none), 0 WHY (0), 1 how many steps it goes till then, 2 in which CELL". */
    private static void judgeTells() {
        HandsAndWays x = new HandsAndWays();
        x.thing(1, 1, 26);
        x.thing(4, 1, 36);
        x.door(24, -1);
        x.door(32, -1);
        x.hand(0, 0);
        x.go(0, 1);
        x.wall(63, 1);
        judged(x, 0, "w0;", -1, 0, 0, 1);
        judged(x, 0, "g25;t0w;g16;p;g0;p;", 5, 1, 3 + 2 + 2, 0);
        judged(x, 0, "p;g2;", 0, 1, 0, 1);
        judged(x, 0, "g2;t7n;", 1, 1, 1, 2);
        judged(x, 0, "o2;", 0, 5, 0, 1);
        judged(x, 0, "g63;", 0, 4, 0, 1);
        HandsAndWays y = new HandsAndWays();
        y.thing(0, 1, 26);
        y.door(24, -1);
        judged(y, 1, "w5;p;", 1, 1, 0, -1);
        judged(y, 1, "g0;", 0, 1, 0, -1);
        judged(y, 1, "o0;", 0, 1, 0, -1);
        judged(y, 1, "t7n;", 0, 1, 0, -1);
        judged(y, 1, "o3;", 0, 1, 0, -1);
        judged(y, 1, "w5;w99;", -1, 0, 0, -1);
    }

    /** Promise 24: the last one of twelve acts fails, or none; each WHY. */
    private static void judgeTellsEachWhy() {
        HandsAndWays x = new HandsAndWays();
        x.thing(2, 1, 9);
        x.thing(4, 1, 20);
        x.thing(3, 1, 63);
        x.door(17, 2);
        x.door(7, -1);
        x.hand(0, 8);
        judged(x, 0, "w1;w1;w1;w1;w1;w1;w1;w1;w1;w1;w1;p;", 11, 1, 0, 8);
        judged(x, 0, "g1;t0e;", 1, 2, 2, 1);
        judged(x, 0, "t1w;", 0, 3, 0, 8);
        judged(x, 0, "g9;", 0, 4, 0, 8);
        judged(x, 0, "g6;o1;g7;o1;", 3, 5, 8, 7);
        HandsAndWays y = new HandsAndWays();
        y.thing(3, 1, 63);
        y.door(17, 0);
        y.hand(0, 8);
        judged(y, 0, "g16;o0;", 1, 6, 1, 16);
        judged(y, 0, "g1;o0;", 1, 7, 2, 1);
        judged(y, 0, "t0n;", 0, 7, 0, 8);
        judged(y, 0, "g62;t0w;g8;p;g9;o0;", 4, 4, 12 + 12, 8);
    }

    /** Promise 25: "-5: HAND, PROGRAM; -10 less WHY (of the ACT that FAILS: nothing is done)". */
    private static void playTakesNumbers() {
        Check.Maker waits = () -> {
            HandsAndWays x = new HandsAndWays();
            for (int p = 0; p < 6; p++) Check.program(x, "w1;");
            return x;
        };
        Check.span("play: hand", waits, (x, n) -> x.play(n, 5), 0, 1, -5);
        Check.span("play: program", waits, (x, n) -> x.play(0, n), 0, 5, -5);
        refused("play: program not there", x -> x.play(1, 3), -5);
        refused("play: hand not there", x -> x.play(0, 0), -11);
        refused("play: fails in the end", x -> x.play(1, 1), -17);
        due("play: no program", new HandsAndWays().play(0, 0), -5);
        due("play: not there, waits", furnished().play(0, 2), 0);
        Check.Maker much = () -> {
            HandsAndWays x = new HandsAndWays();
            x.thing(3, 1, 2);
            x.door(9, 0);
            x.hand(0, 0);
            Check.program(x, "g1;t0w;o0;p;g9;t0w;");
            return x;
        };
        Check.refused("play: nothing is done, of all that it did", much, x -> x.play(0, 0), -17);
    }

    /** Promise 25: "all steps that the HAND went so far", its program and its ticks stay. */
    private static void playTellsAllSteps() {
        HandsAndWays x = furnished();
        due("steps: one", x.play(1, 0), 1);
        due("steps: none more where it is", x.play(1, 0), 1);
        x.go(1, 0);
        due("steps: went before", x.play(1, 0), 3);
        x.start(1, 2);
        x.run(3);
        due("steps: plays while it has a program", x.play(1, 0), 3);
        int[] told = {1, -1, 3, 2, 0, 0};
        for (int what = 0; what < 6; what++) due("steps: handTold " + what, x.handTold(1, what), told[what]);
        x.run(4);
        due("steps: its wait went on", x.handTold(1, 4), 1);
        due("steps: tick", x.count(0), 7);
    }

    public static void main(String[] args) {
        feedTakesBytes();
        feedTakesTheLowestBytes();
        numbersOfActs();
        signsOfActs();
        endsOfPrograms();
        programsAreSixAtMost();
        theTapeIsEmptyThen();
        actToldTakesNumbers();
        actsWithoutNumberOrSide();
        judgeTakesNumbers();
        judgeTells();
        judgeTellsEachWhy();
        playTakesNumbers();
        playTellsAllSteps();
        Check.end("ProgramEdgesTest");
    }
}
