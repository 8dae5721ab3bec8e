/** The edges that the document names: of a TICK (Terms, part 2), and of promises 26 to 28. */
public final class TickEdgesTest {
    private static void due(String what, long got, long want) { Check.due(what, got, want); }

    /** Both hands have programs; hand 0 waits, hand 1 is blocked. */
    private static HandsAndWays furnished() {
        HandsAndWays x = new HandsAndWays();
        x.hand(0, 0);
        x.hand(1, 63);
        for (int p = 0; p < 6; p++) Check.program(x, p == 5 ? "p;" : "w" + (p + 5) + ";p;");
        x.start(0, 0);
        x.start(1, 5);
        x.run(3);
        return x;
    }

    private static void told(String when, HandsAndWays x, int h, int... dues) {
        for (int what = 0; what < 6; what++) due(when + ": handTold " + h + " " + what, x.handTold(h, what), dues[what]);
    }

    private static HandsAndWays sixPrograms() {
        HandsAndWays x = new HandsAndWays();
        for (int p = 0; p < 6; p++) Check.program(x, "w1;");
        return x;
    }

    /** Promise 26: "-5: HAND, PROGRAM; STATE: it has one". */
    private static void startTakesNumbers() {
        Check.span("start: hand", TickEdgesTest::sixPrograms, (x, n) -> x.start(n, 5), 0, 1, -5);
        Check.span("start: program", TickEdgesTest::sixPrograms, (x, n) -> x.start(1, n), 0, 5, -5);
        for (int h = 0; h < 2; h++) {
            int k = h;
            Check.refused("start: it has one, hand " + k, TickEdgesTest::furnished, x -> x.start(k, 1), -3);
            Check.refused("start: it has it", TickEdgesTest::furnished, x -> x.start(k, k == 0 ? 0 : 5), -3);
            Check.refused("start: -5 ahead of STATE", TickEdgesTest::furnished, x -> x.start(k, 6), -5);
        }
        due("start: no program", new HandsAndWays().start(0, 0), -5);
    }

    /** Promise 26: "A HAND (there or not) has a PROGRAM, from its first ACT on". */
    private static void startFromTheFirstAct() {
        HandsAndWays x = sixPrograms();
        due("start: not there", x.start(0, 0), 0);
        told("start: not there", x, 0, -1, -1, 0, 0, 0, 0);
        due("start: both may have the same", x.start(1, 0), 0);
        x.run(1);
        told("start: the act is over", x, 0, -1, -1, 0, 0, 1, 0);
        due("start: has it still", x.start(0, 3), -3);
        x.run(1);
        told("start: has none any more", x, 1, -1, -1, 0, -1, 1, 0);
        due("start: another one", x.start(0, 3), 3);
        told("start: from the first act on", x, 0, -1, -1, 0, 3, 0, 0);
        HandsAndWays y = new HandsAndWays();
        Check.program(y, "w3;");
        y.start(0, 0);
        y.run(4);
        y.start(0, 0);
        y.run(2);
        told("start: waits anew", y, 0, -1, -1, 0, 0, 0, 0);
        y.run(1);
        told("start: till the third tick", y, 0, -1, -1, 0, 0, 1, 0);
    }

    /** Promise 27: "n TICKS (1 .. 100)"; "BAD; FULL: beyond 5000". */
    private static void runTakesTicks() {
        Check.span("run: n", TickEdgesTest::furnished, (x, n) -> x.run(n), 1, 100, -2);
        due("run: 100", new HandsAndWays().run(100), 100);
        Check.Maker late = () -> {
            HandsAndWays x = furnished();
            for (int i = 0; i < 49; i++) x.run(100);
            return x;
        };
        due("run: just 5000", late.make().run(97), 5000);
        Check.refused("run: 5001", late, x -> x.run(98), -4);
        Check.refused("run: far beyond", late, x -> x.run(100), -4);
        Check.refused("run: BAD ahead of FULL", late, x -> x.run(101), -2);
        Check.Maker last = () -> {
            HandsAndWays x = late.make();
            x.run(97);
            return x;
        };
        Check.refused("run: FULL by one", last, x -> x.run(1), -4);
        Check.refused("run: BAD of 0 ahead of FULL", last, x -> x.run(0), -2);
        HandsAndWays x = last.make();
        x.image();
        due("run: an image of the last tick", x.back(), 5000);
    }

    /** "behind the last one it has none any more (that is all in this TICK)". */
    private static void behindTheLastAct() {
        HandsAndWays x = new HandsAndWays();
        x.hand(0, 0);
        Check.program(x, "g1;");
        Check.program(x, "g2;");
        x.start(0, 0);
        x.run(1);
        told("behind: it has it still", x, 0, 1, -1, 1, 0, 1, 0);
        x.run(1);
        told("behind: none any more", x, 0, 1, -1, 1, -1, 1, 0);
        x.run(5);
        told("behind: nothing more", x, 0, 1, -1, 1, -1, 1, 0);
        x.start(0, 1);
        x.run(1);
        told("behind: the next one's first tick", x, 0, 2, -1, 2, 1, 1, 0);
        due("behind: ticks go on without", new HandsAndWays().run(1), 1);
    }

    /** "WAIT n: it is over with the n-th TICK (1 at least)". */
    private static void waitsAreOver() {
        for (int n : new int[] {0, 1, 2, 3, 50, 98, 99}) {
            int ticks = Math.max(1, n);
            HandsAndWays x = new HandsAndWays();
            Check.program(x, "w" + n + ";w2;");
            x.start(1, 0);
            if (ticks > 1) x.run(ticks - 1);
            due("wait: " + n + " is not over", x.handTold(1, 4), 0);
            x.run(1);
            due("wait: " + n + " is over", x.handTold(1, 4), 1);
            due("wait: blocks not", x.handTold(1, 5), 0);
            x.run(1);
            due("wait: the next one begins anew", x.handTold(1, 4), 1);
            x.run(1);
            due("wait: the next one is over", x.handTold(1, 4), 2);
        }
    }

    /** "GO: if it is there, it is over; else one step of the WAY as it is now (over, if it is there then), or BLOCKED". */
    private static void goesStepByStep() {
        HandsAndWays x = new HandsAndWays();
        x.hand(1, 0);
        Check.program(x, "g0;g1;g3;");
        x.start(1, 0);
        x.run(1);
        told("go: it is there", x, 1, 0, -1, 0, 0, 1, 0);
        x.run(1);
        told("go: one step is all", x, 1, 1, -1, 1, 0, 2, 0);
        x.run(1);
        told("go: a step", x, 1, 2, -1, 2, 0, 2, 0);
        x.thing(0, 1, 3);
        x.run(2);
        told("go: a thing lies there", x, 1, 2, -1, 2, 0, 2, 2);
        x.hand(1, 4);
        x.take(1, 0, 1);
        x.run(1);
        told("go: with it, a step", x, 1, 3, 0, 3, 0, 3, 0);
        due("go: it goes along", x.thingTold(0, 1), 2);
    }

    /** "the WAY as it is now": told back from its end, so the first step is where that leads. */
    private static void theFirstStepIsToldBack() {
        HandsAndWays x = new HandsAndWays();
        x.hand(0, 0);
        Check.program(x, "g63;g56;g7;g0;");
        x.start(0, 0);
        int[] cells = {1, 2, 3, 4, 5, 6, 7, 15, 23, 31, 39, 47, 55, 63};
        for (int c : cells) {
            x.run(1);
            due("step: in " + c, x.handTold(0, 0), c);
        }
        HandsAndWays y = new HandsAndWays();
        y.hand(0, 63);
        Check.program(y, "g0;");
        y.start(0, 0);
        int[] back = {55, 47, 39, 31, 23, 15, 7, 6, 5, 4, 3, 2, 1, 0};
        for (int c : new int[] {55, 47}) {
            y.run(1);
            due("step: back in " + c, y.handTold(0, 0), c);
        }
        for (int i = 0; i <= 12; i++) due("step: as the way tells, " + i, y.step(0, 0, i), back[i + 1]);
    }

    /** "Others: done (over), or BLOCKED", by each WHY; a hand that isn't there is blocked, but for a WAIT. */
    private static void othersAreDoneOrBlocked() {
        String[] texts = {"g5;", "t0n;", "p;", "o0;"};
        for (String text : texts) {
            HandsAndWays x = new HandsAndWays();
            x.thing(0, 1, 9);
            x.door(20, -1);
            Check.program(x, text);
            x.start(0, 0);
            x.run(2);
            told("others: not there, " + text, x, 0, -1, -1, 0, 0, 0, 2);
        }
        HandsAndWays x = new HandsAndWays();
        x.thing(3, 1, 2);
        x.door(16, 0);
        x.hand(0, 1);
        Check.program(x, "t0w;t0w;");
        Check.program(x, "o0;o0;");
        Check.program(x, "p;p;");
        x.start(0, 0);
        x.run(3);
        told("others: took, holds one", x, 0, 1, 0, 0, 0, 1, 2);
        x.put(0);
        x.run(1);
        told("others: took again", x, 0, 1, 0, 0, 0, 2, 0);
        x.run(1);
        x.go(0, 8);
        x.start(0, 1);
        x.run(3);
        told("others: opened, it is open", x, 0, 8, 0, 2, 1, 1, 2);
        due("others: it is", x.isOpen(0), 1);
    }

    /** "BLOCKED: one TICK more in a row; 0 with each step, and as an ACT is over". */
    private static void blockedInARow() {
        HandsAndWays x = Check.room("....");
        x.hand(0, 0);
        x.hand(1, 1);
        Check.program(x, "g3;");
        x.start(0, 0);
        for (int i = 1; i <= 3; i++) {
            x.run(1);
            due("blocked: " + i, x.handTold(0, 5), i);
        }
        x.hand(1, 3);
        x.run(1);
        due("blocked: still, there is no way to the end", x.handTold(0, 5), 4);
        x.wall(8, 0);
        x.hand(1, 8);
        x.run(1);
        told("blocked: a step", x, 0, 1, -1, 1, 0, 0, 0);
        x.wall(2, 1);
        x.run(100);
        due("blocked: 100", x.handTold(0, 5), 100);
        x.wall(2, 0);
        x.run(2);
        told("blocked: over", x, 0, 3, -1, 3, 0, 1, 0);
    }

    /** "A TICK: HANDS 0, 1": hand 0 is first, what it leaves hand 1 finds in the same tick. */
    private static void handZeroIsFirst() {
        HandsAndWays x = Check.room("....");
        x.hand(0, 1);
        x.hand(1, 0);
        Check.program(x, "g3;");
        Check.program(x, "g1;");
        x.start(0, 0);
        x.start(1, 1);
        x.run(1);
        told("first: 0 goes on", x, 0, 2, -1, 1, 0, 0, 0);
        told("first: 1 follows", x, 1, 1, -1, 1, 1, 1, 0);
        HandsAndWays y = Check.room("....");
        y.hand(1, 1);
        y.hand(0, 0);
        Check.program(y, "g3;");
        Check.program(y, "g1;");
        y.start(1, 0);
        y.start(0, 1);
        y.run(1);
        told("first: 0 is blocked", y, 0, 0, -1, 0, 1, 0, 1);
        told("first: then 1 goes on", y, 1, 2, -1, 1, 0, 0, 0);
    }

    /** Promise 28: "n TICKS (1 .. 99) or more"; "both HANDS have PROGRAMS and are BLOCKED". */
    private static void hangsTakesTicks() {
        Check.span("hangs: n", TickEdgesTest::furnished, (x, n) -> x.hangs(n), 1, 99, -2);
        HandsAndWays x = new HandsAndWays();
        due("hangs: nobody", x.hangs(1), 0);
        Check.program(x, "p;");
        x.start(0, 0);
        x.run(2);
        due("hangs: 0 alone", x.hangs(1), 0);
        x.start(1, 0);
        due("hangs: 1 has just begun", x.hangs(1), 0);
        x.run(1);
        due("hangs: both for 1", x.hangs(1), 1);
        due("hangs: not both for 2", x.hangs(2), 0);
        x.run(97);
        due("hangs: both for 98", x.hangs(98), 1);
        due("hangs: not both for 99", x.hangs(99), 0);
        x.run(1);
        due("hangs: both for 99", x.hangs(99), 1);
        x.run(100);
        due("hangs: for more", x.hangs(99), 1);
        HandsAndWays y = new HandsAndWays();
        Check.program(y, "p;");
        Check.program(y, "w99;");
        y.start(1, 0);
        y.run(5);
        due("hangs: 1 alone", y.hangs(1), 0);
        y.start(0, 1);
        y.run(5);
        due("hangs: 0 waits", y.hangs(1), 0);
    }

    public static void main(String[] args) {
        startTakesNumbers();
        startFromTheFirstAct();
        runTakesTicks();
        behindTheLastAct();
        waitsAreOver();
        goesStepByStep();
        theFirstStepIsToldBack();
        othersAreDoneOrBlocked();
        blockedInARow();
        handZeroIsFirst();
        hangsTakesTicks();
        Check.end("TickEdgesTest");
    }
}
