/** The edges that the document names: of CASES and of AN IMAGE (Terms, part 3), and of promises 32 to 36. */
public final class CaseEdgesTest {
    private static void due(String what, long got, long want) { Check.due(what, got, want); }

    private static void refused(String what, Check.Call call, int want) {
        Check.refused(what, CaseEdgesTest::furnished, call, want);
    }

    /** Eight things, two cases of the last one; hand 0 is there; six programs, that wait. */
    private static HandsAndWays furnished() {
        HandsAndWays x = new HandsAndWays();
        for (int t = 0; t < 8; t++) x.thing(0, 1, 8 * t);
        x.hand(0, 1);
        for (int p = 0; p < 6; p++) Check.program(x, "w" + p + ";");
        x.maybe(7, 5, 10);
        x.maybe(7, 6, 20);
        return x;
    }

    private static HandsAndWays sixCases() {
        HandsAndWays x = furnished();
        for (int i = 2; i < 6; i++) x.maybe(7, 20 + i, 1);
        return x;
    }

    private static void told(String when, HandsAndWays x, int h, int p, int... dues) {
        for (int what = 0; what < 4; what++) due(when + ": cases " + what, x.cases(h, p, what), dues[what]);
    }

    /** Promise 32: "NONE: THING, CELL; BAD: SHARE; STATE: CASES are of another THING; FULL". */
    private static void maybeTakesNumbers() {
        Check.Maker without = () -> {
            HandsAndWays x = furnished();
            x.sure();
            return x;
        };
        Check.span("maybe: thing", without, (x, n) -> x.maybe(n, 50, 1), 0, 7, -1);
        Check.span("maybe: cell", CaseEdgesTest::furnished, (x, n) -> x.maybe(7, n, 1), 0, 63, -1);
        Check.span("maybe: share", CaseEdgesTest::furnished, (x, n) -> x.maybe(7, 50, n), 1, 99, -2);
        refused("maybe: NONE of the cell ahead of BAD", x -> x.maybe(7, 64, 0), -1);
        refused("maybe: NONE of the thing ahead of BAD", x -> x.maybe(8, 50, 100), -1);
        refused("maybe: NONE ahead of STATE", x -> x.maybe(6, 64, 1), -1);
        refused("maybe: BAD ahead of STATE", x -> x.maybe(6, 50, 100), -2);
        refused("maybe: of another thing", x -> x.maybe(6, 50, 1), -3);
        refused("maybe: of thing 0", x -> x.maybe(0, 50, 1), -3);
        Check.Maker six = CaseEdgesTest::sixCases;
        Check.refused("maybe: FULL", six, x -> x.maybe(7, 50, 1), -4);
        Check.refused("maybe: NONE ahead of FULL", six, x -> x.maybe(7, -1, 1), -1);
        Check.refused("maybe: BAD ahead of FULL", six, x -> x.maybe(7, 50, 0), -2);
        Check.refused("maybe: STATE ahead of FULL", six, x -> x.maybe(0, 50, 1), -3);
        due("maybe: no thing in the room", new HandsAndWays().maybe(0, 0, 1), -1);
        HandsAndWays y = new HandsAndWays();
        y.thing(0, 2, 0);
        due("maybe: of thing 0, where it can't lie", y.maybe(0, 63, 99), 0);
        due("maybe: the same again", y.maybe(0, 63, 99), 1);
        due("maybe: it lies where it lay", y.thingTold(0, 1), 0);
    }

    /** "CASES (6 at most)", numbered from 0 on; promise 33: "There are no CASES any more: how many there were". */
    private static void sureTellsHowManyThereWere() {
        for (int n = 0; n <= 6; n++) {
            HandsAndWays x = new HandsAndWays();
            x.thing(0, 1, 0);
            x.thing(0, 1, 8);
            for (int i = 0; i < n; i++) due("sure: case " + i, x.maybe(1, i, 5), i);
            due("sure: counted " + n, x.count(6), n);
            if (n > 0) due("sure: of another thing not yet", x.maybe(0, 1, 5), -3);
            due("sure: were " + n, x.sure(), n);
            due("sure: are none", x.count(6), 0);
            due("sure: were none", x.sure(), 0);
            due("sure: of another thing now", x.maybe(0, 1, 5), 0);
        }
    }

    /** Promise 34: "-5: HAND, PROGRAM; BAD". */
    private static void casesTakesNumbers() {
        for (int what = 0; what < 4; what++) {
            int w = what;
            Check.span("cases: hand, " + w, CaseEdgesTest::furnished, (x, n) -> x.cases(n, 0, w), 0, 1, -5);
            Check.span("cases: program, " + w, CaseEdgesTest::furnished, (x, n) -> x.cases(0, n, w), 0, 5, -5);
        }
        Check.span("cases: what", CaseEdgesTest::furnished, (x, n) -> x.cases(0, 5, n), 0, 3, -2);
        refused("cases: -5 of the hand ahead of BAD", x -> x.cases(2, 0, 4), -5);
        refused("cases: -5 of the program ahead of BAD", x -> x.cases(0, 6, -1), -5);
        due("cases: no program", new HandsAndWays().cases(0, 0, 0), -5);
    }

    /** "1 their SHARES above, 2 below the line by all SHARES, in lowest terms (0 by 1), 3 .. (0: of none)". */
    private static void sharesInLowestTerms() {
        int[][] shares = {{1}, {99}, {1, 1}, {1, 99}, {99, 1}, {2, 4}, {4, 2}, {6, 9}, {99, 99}, {98, 99}, {7, 93}, {50, 50}, {33, 66}};
        int[][] lowest = {{1, 1}, {1, 1}, {1, 2}, {1, 100}, {99, 100}, {1, 3}, {2, 3}, {2, 5}, {1, 2}, {98, 197}, {7, 100}, {1, 2}, {1, 3}};
        for (int k = 0; k < shares.length; k++) {
            HandsAndWays x = new HandsAndWays();
            x.thing(0, 1, 9);
            x.hand(0, 0);
            Check.program(x, "g2;");
            x.maybe(0, 40, shares[k][0]);
            if (shares[k].length > 1) x.maybe(0, 2, shares[k][1]);
            told("shares: " + k, x, 0, 0, 1, lowest[k][0], lowest[k][1], 2);
        }
        HandsAndWays x = new HandsAndWays();
        x.thing(0, 1, 9);
        Check.program(x, "w0;");
        Check.program(x, "p;");
        told("shares: no case at all", x, 0, 0, 0, 0, 1, 0);
        for (int i = 0; i < 6; i++) x.maybe(0, 10 * i, 99);
        told("shares: six of 99", x, 0, 0, 63, 1, 1, 0);
        told("shares: it fails in all", x, 0, 1, 0, 0, 1, 0);
    }

    /** "(if it isn't HELD, and can lie there: in the room, in one row, each CELL FREE, no HAND in it), else it FAILS". */
    private static void whereItCanLie() {
        HandsAndWays x = new HandsAndWays();
        x.thing(0, 2, 20);
        x.thing(0, 1, 30);
        x.wall(40, 1);
        x.door(44, -1);
        x.door(48, -1);
        x.hand(0, 49);
        x.open(0, 1);
        x.hand(0, 52);
        x.hand(1, 0);
        Check.program(x, "w0;");
        int[] can = {20, 19, 21, 6, 62, 41, 45, 42, 48, 28, 50, 53, 1};
        int[] not = {7, 63, 40, 39, 44, 43, 30, 29, 52, 51, 0, 55};
        for (int c : can) due("lies: can in " + c, oneCase(x, c), 1);
        for (int c : not) due("lies: can't in " + c, oneCase(x, c), 0);
        due("lies: can in " + 2, oneCase(x, 2), 1);
        x.hand(1, 22);
        x.take(1, 0, 1);
        due("lies: held, where it is", oneCase(x, 20), 0);
        due("lies: held, elsewhere", oneCase(x, 2), 0);
        x.put(1);
        due("lies: put, where it is", oneCase(x, 20), 1);
        x.hand(1, 63);
        x.hand(0, 19);
        x.take(0, 0, 3);
        due("lies: held by hand 0", oneCase(x, 2), 0);
        due("lies: held by hand 0, where it is", oneCase(x, 20), 0);
        x.put(0);
        due("lies: put by hand 0", oneCase(x, 2), 1);
    }

    /** "no other THING" is there: whichever thing it is, it may lie where it lies, or half there. */
    private static void whicheverThingItIs() {
        for (int t = 0; t < 8; t++) {
            HandsAndWays x = new HandsAndWays();
            for (int k = 0; k < 8; k++) x.thing(0, 2, 8 * k + 2);
            Check.program(x, "w0;");
            for (int i = 0; i < 5; i++) x.maybe(t, 8 * t + i, 1);
            x.maybe(t, t == 7 ? 3 : 8 * t + 11, 1);
            due("lies: thing " + t, x.cases(0, 0, 0), 31);
        }
    }

    private static int oneCase(HandsAndWays x, int c) {
        x.sure();
        x.maybe(0, c, 1);
        return x.cases(0, 0, 0);
    }

    /** "then PLAYED, as all is now": each of six cases has its bit; "3 the most steps of these". */
    private static void eachCaseHasItsBit() {
        for (int good = 0; good < 6; good++) {
            HandsAndWays x = new HandsAndWays();
            x.thing(0, 1, 63);
            x.hand(1, 0);
            x.go(1, 8);
            Check.program(x, "g17;t0w;g0;");
            for (int i = 0; i < 6; i++) x.maybe(0, i == good ? 18 : 40 + i, i + 1);
            int steps = 2 + 3, g = good + 1;
            int all = 21, common = gcd(g, all);
            told("bit: " + good, x, 1, 0, 1 << good, g / common, all / common, steps);
            told("bit: not there, " + good, x, 0, 0, 0, 0, 1, 0);
            due("bit: it lies where it lay", x.thingTold(0, 1), 63);
            due("bit: nobody went", x.handTold(1, 2), 1);
        }
    }

    private static int gcd(int a, int b) {
        return b == 0 ? a : gcd(b, a % b);
    }

    /** "the most steps of these": not of those in which it fails; whichever comes first. */
    private static void theMostSteps() {
        for (int turn = 0; turn < 2; turn++) {
            HandsAndWays x = Check.room(
                "....",
                ".##.",
                "....");
            x.thing(0, 1, 16);
            x.hand(0, 0);
            Check.program(x, "g3;");
            x.maybe(0, turn == 0 ? 16 : 1, 1);
            x.maybe(0, turn == 0 ? 1 : 16, 1);
            x.maybe(0, 3, 1);
            told("most: " + turn, x, 0, 0, 3, 2, 3, 7);
        }
    }

    /** Promise 36: "STATE: there is none"; promise 35: TICK; the latest image alone. */
    private static void imagesAreOfNow() {
        refused("back: no image", x -> x.back(), -3);
        HandsAndWays x = new HandsAndWays();
        due("image: of an empty room", x.image(), 0);
        x.run(5);
        due("image: its tick", x.image(), 5);
        x.run(7);
        due("back: to the latest one", x.back(), 5);
        due("back: it stays", x.back(), 5);
        due("back: tick", x.count(0), 5);
        due("back: goes on from there", x.run(1), 6);
        due("back: once more", x.back(), 5);
    }

    /** "AN IMAGE keeps TICK, where THINGS are, which are HELD, DOORS that are OPEN, HANDS with all that they do". */
    private static void whatAnImageKeeps() {
        HandsAndWays x = busy();
        x.image();
        x.put(0);
        x.go(0, 0);
        x.go(1, 40);
        x.open(1, 1);
        x.run(20);
        x.hand(0, 39);
        x.back();
        due("keeps: all, first unlike", Told.firstUnlike(x, imageOf(busy())), -1);
    }

    /** "HANDS with all that they do": a wait that goes on, a program that ended since, or came since. */
    private static void whatHandsDo() {
        for (int h = 0; h < 2; h++) {
            HandsAndWays x = new HandsAndWays();
            Check.program(x, "w9;");
            x.start(h, 0);
            x.run(4);
            x.image();
            x.run(8);
            due("do: it ended since", x.handTold(h, 3), -1);
            x.back();
            due("do: it has it again", x.handTold(h, 3), 0);
            x.run(4);
            due("do: it waits still", x.handTold(h, 4), 0);
            x.run(1);
            due("do: the ticks count that it had waited", x.handTold(h, 4), 1);
            HandsAndWays y = new HandsAndWays();
            Check.program(y, "p;");
            y.image();
            y.start(h, 0);
            y.run(3);
            y.back();
            due("do: it had none", y.handTold(h, 3), -1);
            due("do: it was not blocked", y.handTold(h, 5), 0);
            due("do: it may start", y.start(h, 0), 0);
            y.run(3);
            y.image();
            y.run(9);
            y.back();
            due("do: it was blocked", y.handTold(h, 5), 3);
        }
    }

    private static HandsAndWays imageOf(HandsAndWays x) {
        x.image();
        return x;
    }

    /** Hand 0 holds a key, hand 1 waits in its second act; a door is open, one is shut. */
    private static HandsAndWays busy() {
        HandsAndWays x = new HandsAndWays();
        x.thing(3, 1, 10);
        x.thing(0, 2, 30);
        x.door(1, -1);
        x.door(48, -1);
        Check.program(x, "g33;w9;t1n;");
        Check.program(x, "t1e;");
        x.hand(0, 9);
        x.hand(1, 32);
        x.open(0, 0);
        x.take(0, 0, 3);
        x.start(0, 1);
        x.start(1, 0);
        x.run(4);
        return x;
    }

    /** "(not WALLS, STRONG, what there is)", nor programs, the tape, cases, rules, sheets. */
    private static void whatAnImageKeepsNot() {
        HandsAndWays x = new HandsAndWays();
        x.wall(5, 1);
        x.image();
        x.wall(5, 0);
        x.wall(6, 1);
        x.strong(20);
        x.thing(0, 1, 9);
        x.door(12, -1);
        Check.program(x, "p;");
        Check.feed(x, "w");
        x.maybe(0, 1, 1);
        x.hand(0, 20);
        Check.sheet(x, 0);
        x.plan(0, 0, 6, 0, 0);
        x.plan(0, 0, 10, 0, 0);
        x.back();
        due("keeps not: a wall that was", x.cellTold(5), -1);
        due("keeps not: a wall that is", x.cellTold(6), -10);
        int[] counts = {0, 1, 1, 1, 1, 20, 1, 1};
        for (int what = 0; what < 8; what++) due("keeps not: count " + what, x.count(what), counts[what]);
        due("keeps not: what was planned", x.planned(0, 2), 10);
        due("keeps not: how many were asked", x.learnt(2), 4);
        due("keeps not: the sheet", x.cell(0, 0, 0), -12);
        due("keeps: the hand was not there", x.handTold(0, 0), -1);
    }

    /** "(THINGS that came since lie nowhere, DOORS that came since are SHUT)": also one that was held, one that was open. */
    private static void whatCameSince() {
        HandsAndWays x = new HandsAndWays();
        x.thing(0, 1, 9);
        x.door(33, -1);
        x.hand(0, 8);
        x.hand(1, 32);
        x.open(1, 0);
        x.image();
        x.thing(0, 1, 16);
        x.thing(0, 2, 40);
        x.door(0, -1);
        x.door(24, -1);
        x.take(0, 1, 0);
        x.open(0, 1);
        x.back();
        due("since: tells that it holds none", x.handTold(0, 1), -1);
        for (int t = 1; t < 3; t++) {
            for (int what = 1; what < 4; what++) due("since: thing " + t + ", " + what, x.thingTold(t, what), -1);
        }
        due("since: the first lies where it lay", x.thingTold(0, 1), 9);
        due("since: open as it was", x.isOpen(0), 1);
        due("since: shut, though it was opened", x.isOpen(1), 0);
        due("since: shut", x.isOpen(2), 0);
        due("since: its cell", x.cellTold(0), -11);
        due("since: nothing in the thing's cell", x.cellTold(16), -1);
        due("since: nothing in the other's", x.cellTold(41), -1);
        x.image();
        x.open(0, 1);
        x.back();
        due("since: kept now, shut", x.isOpen(1), 0);
        due("since: kept now, nowhere", x.thingTold(1, 1), -1);
    }

    public static void main(String[] args) {
        maybeTakesNumbers();
        sureTellsHowManyThereWere();
        casesTakesNumbers();
        sharesInLowestTerms();
        whereItCanLie();
        whicheverThingItIs();
        eachCaseHasItsBit();
        theMostSteps();
        imagesAreOfNow();
        whatAnImageKeeps();
        whatHandsDo();
        whatAnImageKeepsNot();
        whatCameSince();
        Check.end("CaseEdgesTest");
    }
}
