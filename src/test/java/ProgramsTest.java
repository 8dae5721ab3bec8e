/** Promises 21 to 28: feed, program, actTold, judge, play, start, run, hangs. */
public final class ProgramsTest {
    private static void due(String what, long got, long want) { Check.due(what, got, want); }

    /** Promise 21. */
    private static void feedKeepsTheLowestBytes() {
        HandsAndWays x = new HandsAndWays();
        due("feed: 0 bytes", x.feed(0, 0), -2);
        due("feed: 9 bytes", x.feed(0, 9), -2);
        due("feed: below", x.feed(0, -1), -2);
        due("feed: the highest first", x.feed(0x7777777777673533L, 3), 3);
        due("feed: behind", x.feed(-256L | ';', 1), 4);
        due("feed: is a program", x.program(), 0);
        due("feed: act", x.actTold(0, 0, 0), 0);
        due("feed: number", x.actTold(0, 0, 1), 53);
        due("feed: the tape is empty", x.count(4), 0);
        for (int i = 1; i <= 14; i++) due("feed: full soon", x.feed(0, 8), 8 * i);
        due("feed: 112 and 9", x.feed(0, 9), -2);
        due("feed: 112 and 7", x.feed(0, 7), 119);
        due("feed: FULL", x.feed(0, 2), -4);
        due("feed: FULL changed nothing", x.count(4), 119);
        due("feed: just full", x.feed(0, 1), 120);
        due("feed: FULL by one", x.feed(0, 1), -4);
        due("feed: BAD ahead of FULL", x.feed(0, 9), -2);
        due("feed: empties by a fault", x.program(), -100);
        due("feed: is empty", x.count(4), 0);
    }

    private static void fault(String text, int place) {
        HandsAndWays x = new HandsAndWays();
        due("program: " + text, Check.program(x, text), -100 - place);
        due("program: tape of " + text, x.count(4), 0);
        due("program: none by " + text, x.count(3), 0);
    }

    /** Promise 22. */
    private static void faultsAreTold() {
        fault("", 0);
        fault("x", 0);
        fault(";", 0);
        fault("G1;", 0);
        fault("g", 1);
        fault("g;", 1);
        fault("g6", 2);
        fault("g64;", 2);
        fault("g70;", 2);
        fault("g000;", 3);
        fault("g1", 2);
        fault("g1p;", 2);
        fault("t8n;", 1);
        fault("t10n;", 2);
        fault("t07;", 3);
        fault("t3", 2);
        fault("t3;", 2);
        fault("t3N;", 2);
        fault("t3nn;", 3);
        fault("t3n", 3);
        fault("p", 1);
        fault("p1;", 1);
        fault("o4;", 1);
        fault("o30;", 2);
        fault("o003;", 3);
        fault("w;", 1);
        fault("w100;", 3);
        fault("w99", 3);
        fault("p;g5;q", 5);
        fault("p;g5; ", 5);
        fault("p;;", 2);
        fault("p;p;p;p;p;p;p;p;p;p;p;p;p;", 24);
        fault("p;p;p;p;p;p;p;p;p;p;p;p;x", 24);
        fault("p;p;p;p;p;p;p;p;p;p;p;p", 23);
        fault("t07n;t07n;t07n;t07n;t07n;t07n;t07n;t07n;t07n;t07n;t07n;t07n;g", 60);
        fault("g1\u00bb", 2);
    }

    /** Promises 22 and 23. */
    private static void programsAreNumbered() {
        HandsAndWays x = new HandsAndWays();
        due("program: 0", Check.program(x, "g00;t00n;t07e;t1s;t2w;p;o3;o03;w0;w99;g63;g7;"), 0);
        int[] acts = {0, 1, 1, 1, 1, 2, 3, 3, 4, 4, 0, 0}, numbers = {0, 0, 7, 1, 2, 0, 3, 3, 0, 99, 63, 7};
        int[] sides = {0, 0, 1, 2, 3, 0, 0, 0, 0, 0, 0, 0};
        for (int i = 0; i < 12; i++) {
            due("actTold: act " + i, x.actTold(0, i, 0), acts[i]);
            due("actTold: number " + i, x.actTold(0, i, 1), numbers[i]);
            due("actTold: side " + i, x.actTold(0, i, 2), sides[i]);
        }
        due("actTold: how many", x.actTold(0, 0, 3), 12);
        due("actTold: how many, whatever i is", x.actTold(0, -9, 3), 12);
        due("actTold: i", x.actTold(0, 12, 0), -7);
        due("actTold: i below", x.actTold(0, -1, 0), -7);
        due("actTold: what", x.actTold(0, 0, 4), -7);
        due("actTold: what below", x.actTold(0, 0, -1), -7);
        due("actTold: no such program", x.actTold(1, 0, 0), -5);
        due("actTold: below", x.actTold(-1, 0, 0), -5);
        due("actTold: -5 ahead of -7", x.actTold(1, 99, 9), -5);
        due("program: a fault makes none", Check.program(x, "t1s;t2w;t3x;"), -110);
        for (int p = 1; p < 6; p++) due("program: " + p, Check.program(x, "p;"), p);
        due("program: one act", x.actTold(5, 0, 3), 1);
        due("program: none of the fault's", x.actTold(1, 0, 0), 2);
        Check.feed(x, "zz");
        due("program: FULL ahead of the fault", x.program(), -4);
        due("program: the tape stays", x.count(4), 2);
    }

    private static HandsAndWays withThing() {
        HandsAndWays x = new HandsAndWays();
        x.hand(0, 0);
        x.thing(0, 1, 2);
        x.thing(4, 1, 40);
        return x;
    }

    private static void judged(HandsAndWays x, String text, int act, int why, int steps, int cell) {
        int p = Check.program(x, text);
        due("judge: " + text + " act", x.judge(0, p, -1), act);
        due("judge: " + text + " why", x.judge(0, p, 0), why);
        due("judge: " + text + " steps", x.judge(0, p, 1), steps);
        due("judge: " + text + " cell", x.judge(0, p, 2), cell);
        due("judge: " + text + " moved nothing", x.handTold(0, 0), 0);
        due("judge: " + text + " went nowhere", x.handTold(0, 2), 0);
        due("judge: " + text + " took nothing", x.thingTold(0, 2), -1);
    }

    /** Promise 24. */
    private static void judgeTellsWhy() {
        HandsAndWays x = withThing();
        judged(x, "g1;t0w;g9;p;", -1, 0, 2, 9);
        judged(x, "g2;", 0, 4, 0, 0);
        judged(x, "g3;g1;p;", 2, 1, 9, 1);
        judged(x, "w9;t0w;", 1, 7, 0, 0);
        judged(x, "g48;t1n;", 1, 2, 8, 48);
        judged(x, "g63;t1e;", 1, 3, 14, 63);
        due("judge: no such hand", x.judge(2, 0, 0), -5);
        due("judge: hand below", x.judge(-1, 0, 0), -5);
        due("judge: no such program", x.judge(0, 6, 0), -5);
        due("judge: program below", x.judge(0, -1, 0), -5);
        due("judge: what", x.judge(0, 0, 3), -7);
        due("judge: what below", x.judge(0, 0, -2), -7);
        due("judge: -5 ahead of -7", x.judge(2, 0, 3), -5);
        due("judge: not there, act", x.judge(1, 0, -1), 0);
        due("judge: not there, why", x.judge(1, 0, 0), 1);
        due("judge: not there, steps", x.judge(1, 0, 1), 0);
        due("judge: not there, cell", x.judge(1, 0, 2), -1);
        due("judge: not there, wait", x.judge(1, 3, -1), 1);
    }

    /** Promise 24: doors and keys. */
    private static void judgeTellsWhyOfDoors() {
        HandsAndWays x = withThing();
        x.thing(3, 1, 9);
        x.door(63, 2);
        x.door(10, -1);
        judged(x, "o2;", 0, 5, 0, 0);
        judged(x, "o0;", 0, 7, 0, 0);
        judged(x, "g62;o0;", 1, 6, 13, 62);
        judged(x, "g8;t2w;g61;o0;", 3, 7, 12, 61);
        judged(x, "g1;t2n;g62;o0;", 2, 4, 1, 1);
        judged(x, "t7n;", 0, 1, 0, 0);
        HandsAndWays y = withThing();
        y.thing(3, 1, 9);
        y.door(63, 2);
        y.door(10, -1);
        judged(y, "g17;t2s;g55;o0;p;g63;", -1, 0, 14, 63);
    }

    /** Promise 25. */
    private static void playDoesAllOrNothing() {
        HandsAndWays x = withThing();
        Check.program(x, "g1;t0w;g9;p;");
        Check.program(x, "g1;t0w;g9;p;g63;g0;t0w;");
        Check.program(x, "w3;");
        due("play: no such hand", x.play(2, 0), -5);
        due("play: hand below", x.play(-1, 0), -5);
        due("play: no such program", x.play(0, 3), -5);
        due("play: program below", x.play(0, -1), -5);
        due("play: it fails", x.play(0, 1), -17);
        due("play: nothing is done", x.handTold(0, 0), 0);
        due("play: no steps", x.handTold(0, 2), 0);
        due("play: the thing lies there", x.thingTold(0, 1), 2);
        due("play: not there", x.play(1, 0), -11);
        due("play: not there, wait", x.play(1, 2), 0);
        due("play", x.play(0, 0), 2);
        due("play: is there", x.handTold(0, 0), 9);
        due("play: the thing, too", x.thingTold(0, 1), 10);
        due("play: it was put", x.handTold(0, 1), -1);
        due("play: fails now", x.play(0, 0), -17);
        x.go(0, 0);
        due("play: waits", x.play(0, 2), 4);
        due("play: no tick", x.count(0), 0);
        due("play: has no program by it", x.handTold(0, 3), -1);
    }

    /** Promise 25: what went well stands, the door and what is held. */
    private static void playOpensAndHolds() {
        HandsAndWays x = new HandsAndWays();
        x.thing(3, 1, 2);
        x.door(9, 0);
        x.hand(1, 0);
        Check.program(x, "g1;t0w;o0;g9;");
        Check.program(x, "g1;t0w;o0;g9;o0;");
        due("play: opens, then fails", x.play(1, 1), -15);
        due("play: is shut", x.isOpen(0), 0);
        due("play: holds none", x.handTold(1, 1), -1);
        due("play: opens", x.play(1, 0), 2);
        due("play: is open", x.isOpen(0), 1);
        due("play: holds it", x.thingTold(0, 2), 1);
        due("play: from that side", x.thingTold(0, 3), 3);
        due("play: there", x.thingTold(0, 1), 10);
    }

    /** Promise 26. */
    private static void startOnce() {
        HandsAndWays x = new HandsAndWays();
        Check.program(x, "w1;");
        Check.program(x, "w1;w1;");
        due("start: no such hand", x.start(2, 0), -5);
        due("start: hand below", x.start(-1, 0), -5);
        due("start: no such program", x.start(0, 2), -5);
        due("start: program below", x.start(0, -1), -5);
        due("start: not there", x.start(0, 1), 1);
        due("start: has it", x.handTold(0, 3), 1);
        due("start: the other hasn't", x.handTold(1, 3), -1);
        due("start: it has one", x.start(0, 0), -3);
        due("start: -5 ahead of STATE", x.start(0, 2), -5);
        x.run(2);
        due("start: next", x.handTold(0, 4), 2);
        due("start: has it still", x.start(0, 0), -3);
        x.run(1);
        due("start: has none any more", x.handTold(0, 3), -1);
        due("start: again", x.start(0, 0), 0);
        due("start: from the first act on", x.handTold(0, 4), 0);
        due("start: not blocked", x.handTold(0, 5), 0);
    }

    private static void hand(HandsAndWays x, String when, int h, int... told) {
        for (int i = 0; i < 6; i++) due(when + ": handTold " + h + " " + i, x.handTold(h, i), told[i]);
    }

    /** Promise 27. */
    private static void runTickByTick() {
        HandsAndWays x = new HandsAndWays();
        x.hand(0, 0);
        x.thing(0, 1, 2);
        Check.program(x, "g0;w0;w1;w3;g2;");
        x.start(0, 0);
        due("run: 1", x.run(1), 1);
        hand(x, "run: go where it is", 0, 0, -1, 0, 0, 1, 0);
        x.run(1);
        hand(x, "run: w0", 0, 0, -1, 0, 0, 2, 0);
        x.run(1);
        hand(x, "run: w1", 0, 0, -1, 0, 0, 3, 0);
        x.run(2);
        hand(x, "run: w3 not over", 0, 0, -1, 0, 0, 3, 0);
        x.run(1);
        hand(x, "run: w3 over", 0, 0, -1, 0, 0, 4, 0);
        due("run: blocked", x.run(2), 8);
        hand(x, "run: blocked", 0, 0, -1, 0, 0, 4, 2);
        x.wall(9, 1);
        x.hand(1, 1);
        x.take(1, 0, 3);
        x.go(1, 33);
        x.run(1);
        hand(x, "run: a step", 0, 1, -1, 1, 0, 4, 0);
        x.run(1);
        hand(x, "run: over as it comes there", 0, 2, -1, 2, 0, 5, 0);
        x.run(1);
        due("run: none any more", x.handTold(0, 3), -1);
        due("run: tick", x.count(0), 11);
        due("run: goes on", x.run(100), 111);
    }

    /** Promise 27: acts that are done at once take a tick, hand 0 is ahead of hand 1. */
    private static void runBothHands() {
        HandsAndWays x = new HandsAndWays();
        x.thing(3, 1, 1);
        x.door(10, 0);
        x.hand(0, 0);
        x.hand(1, 9);
        Check.program(x, "t0w;p;");
        Check.program(x, "t0s;o0;g10;p;");
        x.start(0, 0);
        x.start(1, 1);
        x.run(1);
        hand(x, "both: 0 takes", 0, 0, 0, 0, 0, 1, 0);
        hand(x, "both: 1 can't", 1, 9, -1, 0, 1, 0, 1);
        x.run(1);
        hand(x, "both: 0 puts", 0, 0, -1, 0, 0, 2, 0);
        hand(x, "both: 1 takes in the same tick", 1, 9, 0, 0, 1, 1, 0);
        x.run(1);
        due("both: 0 is through", x.handTold(0, 3), -1);
        due("both: 1 opens", x.isOpen(0), 1);
        x.run(1);
        hand(x, "both: 1 goes", 1, 10, 0, 1, 1, 3, 0);
        due("both: with it", x.thingTold(0, 1), 2);
        x.run(1);
        hand(x, "both: 1 puts", 1, 10, -1, 1, 1, 4, 0);
        due("both: 0 went nowhere", x.handTold(0, 2), 0);
    }

    /** Promise 27: the way as it is now, and a hand that isn't there. */
    private static void runAsTheWayIsNow() {
        HandsAndWays x = Check.room(
            ".....",
            ".###.",
            ".....");
        x.hand(0, 0);
        Check.program(x, "g20;");
        x.start(0, 0);
        x.run(2);
        due("now: along the north", x.handTold(0, 0), 2);
        x.wall(3, 1);
        x.run(2);
        due("now: back", x.handTold(0, 0), 0);
        x.wall(3, 0);
        x.run(2);
        due("now: and there again", x.handTold(0, 0), 2);
        x.hand(1, 3);
        x.wall(8, 1);
        x.run(4);
        hand(x, "now: blocked", 0, 2, -1, 6, 0, 0, 4);
        x.hand(1, 16);
        x.run(1);
        hand(x, "now: a step", 0, 3, -1, 7, 0, 0, 0);
        HandsAndWays y = new HandsAndWays();
        Check.program(y, "w2;g5;");
        y.start(1, 0);
        y.run(5);
        hand(y, "now: waits, then is not there", 1, -1, -1, 0, 0, 1, 3);
        y.hand(1, 5);
        y.run(1);
        hand(y, "now: is there", 1, 5, -1, 0, 0, 2, 0);
    }

    /** Promise 27, what is refused. */
    private static void runRefuses() {
        HandsAndWays x = new HandsAndWays();
        due("run: 0", x.run(0), -2);
        due("run: 101", x.run(101), -2);
        due("run: below", x.run(-1), -2);
        for (int i = 1; i < 50; i++) x.run(100);
        due("run: 4900", x.count(0), 4900);
        due("run: 4999", x.run(99), 4999);
        due("run: FULL", x.run(2), -4);
        due("run: changed nothing", x.count(0), 4999);
        due("run: BAD ahead of FULL", x.run(101), -2);
        due("run: 5000", x.run(1), 5000);
        due("run: FULL by one", x.run(1), -4);
    }

    /** Promise 28. */
    private static void hangsWhenBothAreBlocked() {
        HandsAndWays x = new HandsAndWays();
        due("hangs: 0", x.hangs(0), -2);
        due("hangs: 100", x.hangs(100), -2);
        due("hangs: no programs", x.hangs(1), 0);
        x.hand(0, 0);
        x.hand(1, 1);
        Check.program(x, "g1;");
        Check.program(x, "w1;g0;");
        x.start(0, 0);
        x.run(3);
        due("hangs: just one has", x.hangs(1), 0);
        x.start(1, 1);
        x.run(1);
        due("hangs: one waits", x.hangs(1), 0);
        x.run(2);
        due("hangs: 2", x.hangs(2), 1);
        due("hangs: 3", x.hangs(3), 0);
        due("hangs: blocked longer", x.handTold(0, 5), 6);
        x.run(97);
        due("hangs: 99", x.hangs(99), 1);
        x.hand(1, 20);
        x.run(1);
        due("hangs: no more", x.hangs(1), 0);
    }

    public static void main(String[] args) {
        feedKeepsTheLowestBytes();
        faultsAreTold();
        programsAreNumbered();
        judgeTellsWhy();
        judgeTellsWhyOfDoors();
        playDoesAllOrNothing();
        playOpensAndHolds();
        startOnce();
        runTickByTick();
        runBothHands();
        runAsTheWayIsNow();
        runRefuses();
        hangsWhenBothAreBlocked();
        Check.end("ProgramsTest");
    }
}
