/** The edges that the document names: of FREE, STAND, WAY, FAR and BARS (Terms, part 1), and of promises 11 to 14. */
public final class WayEdgesTest {
    private static void due(String what, long got, long want) { Check.due(what, got, want); }

    private static void refused(String what, Check.Call call, int want) {
        Check.refused(what, WayEdgesTest::furnished, call, want);
    }

    /** Hand 0 walled in with one other cell; hand 1 is not there. */
    private static HandsAndWays furnished() {
        HandsAndWays x = Check.room(
            "........",
            "...#####",
            "..#.#...");
        x.hand(0, 0);
        return x;
    }

    /** Promise 11 to 14: "-5: HAND (not there, too), CELL". */
    private static void handsAndCellsAreTaken() {
        Check.Maker both = () -> {
            HandsAndWays x = new HandsAndWays();
            x.hand(0, 9);
            x.hand(1, 54);
            return x;
        };
        Check.span("way: hand", both, (x, n) -> x.way(n, 30), 0, 1, -5);
        Check.span("way: cell", both, (x, n) -> x.way(0, n), 0, 63, -5);
        Check.span("step: hand", both, (x, n) -> x.step(n, 30, 0), 0, 1, -5);
        Check.span("step: cell", both, (x, n) -> x.step(0, n, 1), 0, 63, -5);
        Check.span("reached: hand", both, (x, n) -> x.reached(n, 0), 0, 1, -5);
        Check.span("reached: what", both, (x, n) -> x.reached(0, n), 0, 1, -2);
        Check.span("barred: hand", both, (x, n) -> x.barred(n, 30), 0, 1, -5);
        Check.span("barred: cell", both, (x, n) -> x.barred(0, n), 0, 63, -5);
        refused("way: not there", x -> x.way(1, 0), -5);
        refused("step: not there", x -> x.step(1, 0, 0), -5);
        refused("reached: not there", x -> x.reached(1, 0), -5);
        refused("reached: not there, ahead of BAD", x -> x.reached(1, 2), -5);
        refused("barred: not there", x -> x.barred(1, 0), -5);
        refused("step: -5 ahead of STATE", x -> x.step(0, 64, 99), -5);
    }

    /** Promise 11: "STATE: there is no WAY". */
    private static void thereIsNoWay() {
        due("way: its own cell", furnished().way(0, 0), 0);
        due("way: the last one it comes to", furnished().way(0, 7), 7);
        refused("way: a wall", x -> x.way(0, 11), -3);
        refused("way: behind walls", x -> x.way(0, 19), -3);
        refused("way: beyond the corner", x -> x.way(0, 21), -3);
        due("way: no change", furnished().way(0, 17), 3);
    }

    /** Promise 12: "i steps (0 .. FAR) from its start"; "STATE: there is no WAY, no such i". */
    private static void stepsFromItsStart() {
        Check.span("step: i", WayEdgesTest::furnished, (x, n) -> x.step(0, 7, n), 0, 7, -3);
        Check.span("step: i where it is", WayEdgesTest::furnished, (x, n) -> x.step(0, 0, n), 0, 0, -3);
        Check.span("step: i beside", WayEdgesTest::furnished, (x, n) -> x.step(0, 8, n), 0, 1, -3);
        for (int i = -1; i < 3; i++) {
            int n = i;
            refused("step: no way, " + n, x -> x.step(0, 19, n), -3);
            refused("step: a wall, " + n, x -> x.step(0, 11, n), -3);
        }
        HandsAndWays y = Check.room("...");
        y.hand(0, 0);
        y.thing(0, 1, 1);
        due("step: not through a thing", y.step(0, 2, 1), -3);
        due("step: not into a thing", y.step(0, 1, 1), -3);
        due("step: 0 is its start", furnished().step(0, 17, 0), 0);
        due("step: FAR is its end", furnished().step(0, 17, 3), 17);
    }

    /** "by its sides in order the first from which it could have come": NORTH ahead of EAST, SOUTH, WEST. */
    private static void stepsAreToldBack() {
        due("back: from the north ahead of the west", step(0, 9, 1), 1);
        due("back: from the north ahead of the east", step(2, 9, 1), 1);
        due("back: from the east ahead of the south", step(18, 9, 1), 10);
        due("back: from the south ahead of the west", step(16, 9, 1), 17);
        HandsAndWays x = new HandsAndWays();
        x.hand(0, 63);
        due("back: along the first row, not round its edge", x.step(0, 0, 1), 55);
        due("back: the first row comes last", x.step(0, 0, 13), 1);
        due("back: not round the edge", x.step(0, 7, 6), 15);
        HandsAndWays y = new HandsAndWays();
        y.hand(0, 0);
        due("back: the last row", y.step(0, 56, 6), 48);
        due("back: to the last cell from the north", y.step(0, 63, 13), 55);
    }

    private static int step(int from, int to, int i) {
        HandsAndWays x = new HandsAndWays();
        x.hand(1, from);
        return x.step(1, to, i);
    }

    /** "A CELL is FREE ..: it is no WALL, no SHUT DOOR is there, no other THING, not the other HAND". */
    private static void whatIsNotFree() {
        HandsAndWays x = Check.room(".......");
        x.hand(0, 0);
        x.hand(1, 63);
        due("free: nothing there", x.way(0, 6), 6);
        x.wall(3, 1);
        due("free: a wall", x.way(0, 3), -3);
        due("free: behind a wall", x.way(0, 4), -3);
        x.wall(3, 0);
        x.door(3, -1);
        due("free: a shut door", x.way(0, 3), -3);
        due("free: behind a shut door", x.way(0, 4), -3);
        x.go(0, 2);
        x.open(0, 0);
        due("free: an open door", x.way(0, 3), 1);
        due("free: behind an open door", x.way(0, 4), 2);
        x.thing(0, 2, 4);
        due("free: ahead of a thing", x.way(0, 3), 1);
        due("free: a thing's first cell", x.way(0, 4), -3);
        due("free: a thing's last cell", x.way(0, 5), -3);
        due("free: behind a thing", x.way(0, 6), -3);
        x.hand(1, 6);
        x.take(1, 0, 1);
        due("free: a thing that the other one holds", x.way(0, 5), -3);
        due("free: not for the other one", x.way(1, 5), 1);
        due("free: its thing would come to the other hand", x.way(1, 4), -3);
        x.hand(0, 1);
        due("free: the other hand is gone", x.way(1, 4), 2);
        x.put(1);
        x.hand(1, 2);
        due("free: the other hand", x.way(0, 2), -3);
        due("free: it bars it", x.way(0, 3), -3);
    }

    /** "with a THING that doesn't TURN UP not NORTH or SOUTH": of each kind, from each side. */
    private static void whoTurnsUp() {
        int[] sides = {15, 10, 13, 15, 10, 5};
        boolean[] up = {true, true, false, true, true, false};
        for (int kind = 0; kind < 6; kind++) {
            for (int side = 0; side < 4; side++) {
                if ((sides[kind] >> side & 1) == 0) continue;
                HandsAndWays x = new HandsAndWays();
                x.strong(99);
                x.thing(kind, 1, 27);
                int hand = new int[] {19, 28, 35, 26}[side];
                x.hand(0, hand);
                x.take(0, 0, side);
                String name = "up: kind " + kind + " side " + side;
                due(name + " north", x.way(0, hand - 8), up[kind] ? 1 : -3);
                due(name + " south", x.way(0, hand + 8), up[kind] ? 1 : -3);
                due(name + " east", x.way(0, hand + 1), 1);
                due(name + " west", x.way(0, hand - 1), 1);
                due(name + " comes to", x.reached(0, 0), up[kind] ? 56 : side % 2 == 1 ? 7 : 8);
                x.put(0);
                due(name + " without it", x.way(0, hand + (side == 0 ? -8 : 8)), 1);
            }
        }
    }

    /** Promise 13: "how many CELLS a HAND comes to (with its own)": from one to all. */
    private static void cellsThatItComesTo() {
        HandsAndWays x = Check.room("#");
        x.wall(63, 0);
        x.hand(1, 63);
        due("comes to: its own alone", x.reached(1, 0), 1);
        due("comes to: walls bar not", x.reached(1, 1), 0);
        HandsAndWays y = new HandsAndWays();
        y.hand(0, 20);
        due("comes to: all", y.reached(0, 0), 64);
        due("comes to: nothing bars", y.reached(0, 1), 0);
        y.hand(1, 0);
        due("comes to: all but the other's", y.reached(0, 0), 63);
        due("comes to: just as many", y.reached(1, 0), 63);
    }

    /** "BARS: all THINGS (bits 0 .. 7), SHUT DOORS (bits 8 .. 11), the other HAND (bit 12)": each bit alone. */
    private static void eachBarHasItsBit() {
        for (int t = 0; t < 8; t++) {
            HandsAndWays x = Check.room(".", ".");
            for (int k = 0; k < 8; k++) {
                x.wall(k == t ? 8 : 48 + k, 0);
                x.thing(0, 1, k == t ? 8 : 48 + k);
            }
            x.hand(0, 0);
            due("bars: thing " + t, x.reached(0, 1), 1 << t);
        }
        for (int d = 0; d < 4; d++) {
            HandsAndWays x = Check.room("..");
            for (int k = 0; k < 4; k++) {
                x.wall(48 + k, 0);
                x.door(k == d ? 1 : 48 + k, -1);
            }
            x.hand(0, 0);
            due("bars: door " + d, x.reached(0, 1), 256 << d);
            x.open(0, d);
            due("bars: not an open door " + d, x.reached(0, 1), 0);
        }
        for (int h = 0; h < 2; h++) {
            HandsAndWays x = Check.room("..");
            x.wall(62, 0);
            x.wall(63, 0);
            x.hand(h, 0);
            due("bars: the other hand is not there", x.reached(h, 1), 0);
            x.hand(1 - h, 1);
            due("bars: hand " + (1 - h), x.reached(h, 1), 4096);
            due("bars: and the other way round", x.reached(1 - h, 1), 4096);
            x.hand(h, 63);
            due("bars: the last cell from afar", x.reached(1 - h, 1), 0);
            x.hand(1 - h, 62);
            due("bars: the last cell", x.reached(1 - h, 1), 4096);
        }
    }

    /** All bars at once; with a hand not there, the last cell bars nothing. */
    private static void allBarsAtOnce() {
        HandsAndWays x = new HandsAndWays();
        for (int t = 0; t < 8; t++) x.thing(0, 1, 8 + t);
        for (int d = 0; d < 4; d++) x.door(d, -1);
        x.hand(1, 4);
        x.hand(0, 63);
        due("bars: those that it comes beside", x.reached(0, 1), 255);
        due("bars: of hand 1", x.reached(1, 1), 8 * 256 + 0xf0);
        HandsAndWays y = new HandsAndWays();
        for (int t = 0; t < 8; t++) y.thing(0, 1, t);
        for (int d = 0; d < 4; d++) y.door(56 + d, -1);
        y.hand(0, 30);
        y.hand(1, 63);
        due("bars: all", y.reached(0, 1), 8191);
        due("bars: all but it itself", y.reached(1, 1), 8191);
        HandsAndWays z = new HandsAndWays();
        z.hand(0, 55);
        z.wall(63, 1);
        due("bars: a hand that is not there", z.reached(0, 1), 0);
    }

    /** "of the HAND or of what it holds (just those in the room, in its row)". */
    private static void barsOfWhatIsHeld() {
        HandsAndWays x = Check.room(
            ".....",
            ".....");
        x.thing(0, 2, 10);
        x.hand(0, 9);
        x.take(0, 0, 3);
        x.thing(0, 1, 4);
        due("held: what the thing's last cell comes upon", x.reached(0, 1), 2);
        x.thing(0, 1, 0);
        due("held: what the hand comes upon", x.reached(0, 1), 6);
        HandsAndWays y = Check.room(
            "########",
            "########",
            "..#.....",
            "#...####");
        y.thing(0, 2, 20);
        y.hand(0, 22);
        y.take(0, 0, 1);
        y.thing(0, 1, 17);
        due("held: its first cell would be a wall, its last one is in the room", y.reached(0, 1), 0);
        HandsAndWays v = Check.room("...#.");
        v.thing(0, 1, 1);
        v.thing(0, 1, 4);
        v.hand(0, 0);
        v.take(0, 0, 3);
        due("held: not what lies behind its last cell", v.reached(0, 1), 0);
        due("held: it comes to two", v.reached(0, 0), 2);
        HandsAndWays z = Check.room("...");
        z.thing(0, 2, 0);
        z.hand(0, 2);
        z.take(0, 0, 1);
        z.wall(63, 0);
        z.thing(0, 1, 63);
        due("held: what would be out of the room bars not", z.reached(0, 1), 0);
        due("held: it comes to its own cell alone", z.reached(0, 0), 1);
    }

    /** "just those in the room, in its row": what would be in the row ahead, or behind, bars not. */
    private static void barsJustInItsRow() {
        HandsAndWays x = Check.room(
            "#######.",
            "...#####",
            ".......#");
        x.thing(0, 1, 7);
        x.thing(0, 2, 8);
        x.hand(0, 10);
        x.take(0, 1, 1);
        due("row: not what is ahead of it in the row above", x.reached(0, 1), 0);
        HandsAndWays y = Check.room(
            "########",
            "#####...",
            ".#######");
        y.thing(0, 1, 16);
        y.thing(0, 2, 14);
        y.hand(0, 13);
        y.take(0, 1, 3);
        due("row: not what is behind it in the row below", y.reached(0, 1), 0);
    }

    /** "steps NORTH and SOUTH with what doesn't TURN UP don't count". */
    private static void barsNotUpOrDown() {
        for (int kind = 0; kind < 3; kind += 2) {
            HandsAndWays x = Check.room(
                "....",
                "....",
                "....");
            x.thing(kind, 1, 9);
            x.hand(0, 8);
            x.take(0, 0, 3);
            for (int c = 0; c < 3; c++) x.thing(0, 1, c);
            for (int c = 16; c < 19; c++) x.thing(0, 1, c);
            x.thing(0, 1, 11);
            due("up: bars of kind " + kind, x.reached(0, 1), kind == 0 ? 0xfe : 0x80);
        }
    }

    /** Promise 14: "(0: it does, too)", "each of which, alone"; all eight things' bits. */
    private static void barredByEachAlone() {
        HandsAndWays x = Check.room("..........");
        x.hand(0, 3);
        x.thing(0, 1, 2);
        due("barred: its own cell", x.barred(0, 3), 0);
        due("barred: where it comes to", x.barred(0, 7), 0);
        due("barred: the thing's own cell", x.barred(0, 2), 1);
        due("barred: behind it", x.barred(0, 0), 1);
        due("barred: a wall", x.barred(0, 8), 0);
        due("barred: a wall beside a thing", x.barred(0, 10), 0);
        x.thing(0, 1, 1);
        due("barred: by two", x.barred(0, 0), 0);
        due("barred: by the nearer one alone", x.barred(0, 2), 1);
        due("barred: the further one's cell, by two", x.barred(0, 1), 0);
        for (int t = 0; t < 8; t++) {
            HandsAndWays y = Check.room("...");
            for (int k = 0; k < 8; k++) {
                y.wall(k == t ? 1 : 40 + k, 0);
                y.thing(0, 1, k == t ? 1 : 40 + k);
            }
            y.hand(1, 0);
            due("barred: by thing " + t, y.barred(1, 2), 1 << t);
        }
    }

    /** "THINGS that lie and aren't HELD, without each of which, alone". */
    private static void barredByWhatLies() {
        HandsAndWays x = Check.room(
            "....",
            "....");
        x.thing(0, 1, 1);
        x.thing(0, 1, 9);
        x.hand(0, 0);
        due("lies: both could be passed by", x.barred(0, 2), 3);
        x.hand(1, 2);
        x.take(1, 0, 1);
        due("lies: not one that the other one holds", x.barred(0, 3), 2);
        due("lies: the other hand's cell", x.barred(0, 2), 0);
        HandsAndWays y = Check.room(
            "......",
            "#.####");
        y.thing(0, 1, 9);
        y.thing(0, 1, 3);
        y.hand(0, 1);
        y.take(0, 0, 0);
        due("lies: with what it holds, not up", y.barred(0, 2), 0);
        due("lies: not what it holds", y.barred(0, 5), 0);
        y.put(0);
        due("lies: the other one, without it", y.barred(0, 5), 2);
        for (int h = 0; h < 2; h++) {
            HandsAndWays v = Check.room(
                "........",
                "##.#####");
            v.thing(0, 1, 2);
            v.hand(h, 10);
            v.take(h, 0, 2);
            v.hand(1 - h, 0);
            due("lies: held from beside, by hand " + h, v.barred(1 - h, 4), 0);
            v.put(h);
            due("lies: put, by hand " + h, v.barred(1 - h, 4), 1);
        }
        HandsAndWays z = Check.room("...");
        z.hand(0, 0);
        z.image();
        z.thing(0, 1, 1);
        z.back();
        due("lies: what lies nowhere bars not", z.barred(0, 2), 0);
        z.door(1, -1);
        due("lies: a shut door is no thing", z.barred(0, 2), 0);
    }

    public static void main(String[] args) {
        handsAndCellsAreTaken();
        thereIsNoWay();
        stepsFromItsStart();
        stepsAreToldBack();
        whatIsNotFree();
        whoTurnsUp();
        cellsThatItComesTo();
        eachBarHasItsBit();
        allBarsAtOnce();
        barsOfWhatIsHeld();
        barsJustInItsRow();
        barsNotUpOrDown();
        barredByEachAlone();
        barredByWhatLies();
        Check.end("WayEdgesTest");
    }
}
