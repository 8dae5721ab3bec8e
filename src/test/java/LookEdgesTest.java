/** The edges that the document names: of promises 15 to 20. */
public final class LookEdgesTest {
    private static void due(String what, long got, long want) { Check.due(what, got, want); }

    private static void refused(String what, Check.Call call, int want) {
        Check.refused(what, LookEdgesTest::furnished, call, want);
    }

    /** Eight things, of which hand 1 holds the last one; four doors; six programs. */
    private static HandsAndWays furnished() {
        HandsAndWays x = new HandsAndWays();
        for (int t = 0; t < 8; t++) x.thing(t % 6, 1 + t % 2, 8 * t + 2);
        for (int d = 0; d < 4; d++) x.door(8 * d + 7, -1);
        x.hand(1, 57);
        x.take(1, 7, 3);
        for (int p = 0; p < 6; p++) Check.program(x, "w" + p + ";p;");
        return x;
    }

    /** Promise 15: "-5: no such THING; -7: what". */
    private static void thingToldTakesNumbers() {
        for (int what = 0; what < 7; what++) {
            int w = what;
            Check.span("thingTold: thing, " + w, LookEdgesTest::furnished, (x, n) -> x.thingTold(n, w), 0, 7, -5);
        }
        Check.span("thingTold: what", LookEdgesTest::furnished, (x, n) -> x.thingTold(7, n), 0, 6, -7);
        refused("thingTold: -5 ahead of -7", x -> x.thingTold(8, 7), -5);
        HandsAndWays x = new HandsAndWays();
        due("thingTold: no thing yet", x.thingTold(0, 0), -5);
        x.thing(0, 1, 63);
        due("thingTold: the first", x.thingTold(0, 1), 63);
        due("thingTold: no second", x.thingTold(1, 1), -5);
    }

    /** Promise 15: "by which HAND it is HELD (-1), 3 from which side (-1)"; a -1 that is an answer. */
    private static void whoHoldsIt() {
        HandsAndWays x = furnished();
        int[] held = {1, 58, 1, 3, 10, 7, 2};
        for (int what = 0; what < 7; what++) due("thingTold: held " + what, x.thingTold(7, what), held[what]);
        x.put(1);
        due("thingTold: by none", x.thingTold(7, 2), -1);
        due("thingTold: from no side", x.thingTold(7, 3), -1);
        for (int side = 0; side < 4; side++) {
            HandsAndWays y = new HandsAndWays();
            y.thing(3, 1, 27);
            y.hand(0, new int[] {19, 28, 35, 26}[side]);
            y.take(0, 0, side);
            due("thingTold: by hand 0", y.thingTold(0, 2), 0);
            due("thingTold: from side " + side, y.thingTold(0, 3), side);
        }
    }

    /** "where THINGS are": one that lies nowhere is in no cell, and is of its kind still. */
    private static void whatLiesNowhere() {
        HandsAndWays x = new HandsAndWays();
        x.image();
        x.thing(5, 2, 0);
        x.back();
        int[] told = {5, -1, -1, -1, 5, 3, 2};
        for (int what = 0; what < 7; what++) due("nowhere: " + what, x.thingTold(0, what), told[what]);
        due("nowhere: what is refused ahead of -1", x.thingTold(0, 7), -7);
        due("nowhere: in no cell", x.cellTold(0), -1);
    }

    /** Promise 16: "-5: no such HAND; -7: what"; of a hand that is not there. */
    private static void handToldTakesNumbers() {
        for (int what = 0; what < 6; what++) {
            int w = what;
            Check.span("handTold: hand, " + w, LookEdgesTest::furnished, (x, n) -> x.handTold(n, w), 0, 1, -5);
        }
        Check.span("handTold: what", LookEdgesTest::furnished, (x, n) -> x.handTold(1, n), 0, 5, -7);
        Check.span("handTold: what, not there", LookEdgesTest::furnished, (x, n) -> x.handTold(0, n), 0, 5, -7);
        refused("handTold: -5 ahead of -7", x -> x.handTold(2, 6), -5);
    }

    /** Promise 16: "2 how many steps it went", by go, play and ticks, not by being put elsewhere. */
    private static void stepsThatItWent() {
        HandsAndWays x = new HandsAndWays();
        x.hand(0, 0);
        x.hand(0, 63);
        due("steps: none by hand", x.handTold(0, 2), 0);
        x.go(0, 0);
        due("steps: by go", x.handTold(0, 2), 14);
        x.go(0, 0);
        due("steps: none where it is", x.handTold(0, 2), 14);
        Check.program(x, "g3;g0;");
        due("steps: by play", x.play(0, 0), 20);
        due("steps: none by judge", x.judge(0, 0, 1), 6);
        x.start(0, 0);
        x.run(9);
        due("steps: by ticks", x.handTold(0, 2), 26);
        x.wall(1, 1);
        x.wall(8, 1);
        due("steps: refused", x.go(0, 5), -14);
        due("steps: none that is refused", x.handTold(0, 2), 26);
    }

    /** Promise 17: "BAD", of each number. */
    private static void kindToldTakesNumbers() {
        Check.Maker empty = HandsAndWays::new;
        for (int what = 0; what < 4; what++) {
            int w = what;
            Check.span("kindTold: kind, " + w, empty, (x, n) -> x.kindTold(n, 1, w), 0, 5, -2);
            Check.span("kindTold: wide, " + w, empty, (x, n) -> x.kindTold(5, n, w), 1, 2, -2);
        }
        for (int kind = 0; kind < 6; kind++) {
            int k = kind;
            Check.span("kindTold: what of " + k, empty, (x, n) -> x.kindTold(k, 2, n), 0, 3, -2);
        }
    }

    /** Promise 17: the table of KINDS, so wide. */
    private static void allKinds() {
        int[][] one = {{15, 2, 0, 1}, {10, 5, 0, 1}, {13, 2, 0, 0}, {15, 1, 1, 1}, {10, 10, 0, 1}, {5, 1, 0, 0}};
        int[] two = {4, 7, 4, 2, 14, 3};
        HandsAndWays x = new HandsAndWays();
        for (int kind = 0; kind < 6; kind++) {
            for (int what = 0; what < 4; what++) {
                due("kind: " + kind + ", " + what, x.kindTold(kind, 1, what), one[kind][what]);
                due("kind: " + kind + " two wide, " + what, x.kindTold(kind, 2, what), what == 1 ? two[kind] : one[kind][what]);
            }
        }
    }

    /** Promise 18: "-5: no such CELL", "-1: nothing", and what is told first. */
    private static void cellsAreTold() {
        Check.span("cellTold: cell", LookEdgesTest::furnished, (x, n) -> x.cellTold(n), 0, 63, -5);
        HandsAndWays x = furnished();
        x.wall(0, 1);
        x.wall(7, 1);
        x.wall(63, 1);
        due("cellTold: the first cell", x.cellTold(0), -10);
        due("cellTold: the last cell", x.cellTold(63), -10);
        due("cellTold: a wall ahead of a shut door", x.cellTold(7), -10);
        due("cellTold: a shut door", x.cellTold(15), -11);
        due("cellTold: nothing", x.cellTold(1), -1);
        due("cellTold: thing 0", x.cellTold(2), 0);
        due("cellTold: not its neighbour", x.cellTold(3), -1);
        due("cellTold: thing 1", x.cellTold(10), 1);
        due("cellTold: thing 1's last cell", x.cellTold(11), 1);
        due("cellTold: behind it", x.cellTold(12), -1);
        due("cellTold: a thing that is held", x.cellTold(58), 7);
        due("cellTold: hand 1", x.cellTold(57), 101);
        x.hand(0, 62);
        due("cellTold: hand 0", x.cellTold(62), 100);
    }

    /** Promise 18: "-10 a WALL, else -11 a SHUT DOOR, else 100 and the HAND", where an image brought a hand back. */
    private static void cellsAreToldInOrder() {
        for (int h = 0; h < 2; h++) cellsAreToldInOrder(h);
    }

    private static void cellsAreToldInOrder(int h) {
        HandsAndWays x = new HandsAndWays();
        x.hand(h, 20);
        x.thing(0, 1, 21);
        x.image();
        x.hand(h, 22);
        x.take(h, 0, 1);
        x.go(h, 42);
        for (int c = 20; c < 22; c++) {
            x.door(c, -1);
            x.wall(c, 1);
        }
        x.back();
        due("order: a wall ahead of all", x.cellTold(20), -10);
        due("order: a wall ahead of a thing", x.cellTold(21), -10);
        x.wall(20, 0);
        x.wall(21, 0);
        due("order: a shut door ahead of a hand", x.cellTold(20), -11);
        due("order: a shut door ahead of a thing", x.cellTold(21), -11);
        due("order: it stands beside the other door", x.open(h, 1), 0);
        due("order: then the thing", x.cellTold(21), 0);
        x.hand(1 - h, 19);
        x.open(1 - h, 0);
        due("order: then the hand", x.cellTold(20), 100 + h);
    }

    /** Promise 19: "NONE". */
    private static void isOpenTakesDoors() {
        Check.span("isOpen: door", LookEdgesTest::furnished, (x, n) -> x.isOpen(n), 0, 3, -1);
        HandsAndWays x = new HandsAndWays();
        due("isOpen: no door", x.isOpen(0), -1);
        x.door(63, -1);
        due("isOpen: shut", x.isOpen(0), 0);
        due("isOpen: no second", x.isOpen(1), -1);
        x.hand(1, 62);
        x.open(1, 0);
        due("isOpen: open", x.isOpen(0), 1);
        HandsAndWays y = furnished();
        y.hand(0, 30);
        y.open(0, 3);
        for (int d = 0; d < 4; d++) due("isOpen: the last one alone, " + d, y.isOpen(d), d == 3 ? 1 : 0);
    }

    /** Promise 20: "BAD"; each of them from none to all. */
    private static void allIsCounted() {
        Check.span("count: what", LookEdgesTest::furnished, (x, n) -> x.count(n), 0, 7, -2);
        int[] none = {0, 0, 0, 0, 0, 8, 0, 0};
        for (int what = 0; what < 8; what++) due("count: none of " + what, new HandsAndWays().count(what), none[what]);
        HandsAndWays x = furnished();
        for (int i = 0; i < 50; i++) x.run(100);
        for (int i = 0; i < 15; i++) x.feed(0, 8);
        x.strong(99);
        for (int i = 0; i < 6; i++) x.maybe(0, i, 1);
        x.sheet(0, 0, 0);
        x.hand(0, 63);
        for (int i = 0; i < 13; i++) x.plan(0, 7, 8 + i, 0, 0);
        for (int i = 0; i < 13; i++) x.plan(0, 5, 8 + i, 0, 0);
        int[] all = {5000, 8, 4, 6, 120, 99, 6, 12};
        for (int what = 0; what < 8; what++) due("count: all of " + what, x.count(what), all[what]);
    }

    public static void main(String[] args) {
        thingToldTakesNumbers();
        whoHoldsIt();
        whatLiesNowhere();
        handToldTakesNumbers();
        stepsThatItWent();
        kindToldTakesNumbers();
        allKinds();
        cellsAreTold();
        cellsAreToldInOrder();
        isOpenTakesDoors();
        allIsCounted();
        Check.end("LookEdgesTest");
    }
}
