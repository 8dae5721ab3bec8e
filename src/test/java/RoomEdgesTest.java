/** The edges that the document names: of the room itself (Terms, part 1), and of promises 1 to 6. */
public final class RoomEdgesTest {
    private static void due(String what, long got, long want) { Check.due(what, got, want); }

    private static void refused(String what, Check.Call call, int want) {
        Check.refused(what, RoomEdgesTest::furnished, call, want);
    }

    /** A wall, three doors, four things, both hands; the room is not full. */
    private static HandsAndWays furnished() {
        HandsAndWays x = new HandsAndWays();
        x.wall(9, 1);
        x.thing(3, 2, 10);
        x.thing(0, 1, 20);
        x.thing(2, 1, 30);
        x.thing(3, 1, 40);
        x.door(24, 0);
        x.door(26, -1);
        x.door(25, -1);
        x.hand(0, 17);
        x.hand(1, 49);
        x.open(0, 2);
        x.hand(0, 41);
        x.take(0, 3, 1);
        return x;
    }

    /** "c is x = c % 8, y = c / 8; beside one: ..": no cell is beside one of another row's end. */
    private static void noCellIsBesideRoundTheEdge() {
        for (int c = 0; c < 64; c++) {
            HandsAndWays x = new HandsAndWays();
            x.hand(c % 2, c);
            for (int k = 0; k < 64; k++) {
                int far = Math.abs(c % 8 - k % 8) + Math.abs(c / 8 - k / 8);
                due("beside: from " + c + " to " + k, x.way(c % 2, k), far);
            }
        }
    }

    /** "side 0 NORTH (y - 1), 1 EAST (x + 1), 2 SOUTH (y + 1), 3 WEST (x - 1)", for a hand that opens. */
    private static void doorsAreOpenedFromBesideAlone() {
        for (int c : new int[] {0, 7, 8, 15, 27, 48, 55, 56, 63}) {
            for (int k = 0; k < 64; k++) {
                if (k == c) continue;
                HandsAndWays x = new HandsAndWays();
                x.door(c, -1);
                x.hand(0, k);
                boolean beside = Math.abs(c % 8 - k % 8) + Math.abs(c / 8 - k / 8) == 1;
                due("beside: door in " + c + " opened from " + k, x.open(0, 0), beside ? 0 : -17);
            }
        }
    }

    /** "from its first one to the EAST, in one row". */
    private static void thingsLieInOneRow() {
        for (int c = 0; c < 64; c++) {
            HandsAndWays x = new HandsAndWays();
            due("row: one wide in " + c, x.thing(0, 1, c), 0);
            HandsAndWays y = new HandsAndWays();
            due("row: two wide in " + c, y.thing(0, 2, c), c % 8 == 7 ? -3 : 0);
            due("row: its first cell is " + c, y.cellTold(c), c % 8 == 7 ? -1 : 0);
            if (c < 63) due("row: its last cell is " + (c + 1), y.cellTold(c + 1), c % 8 == 7 ? -1 : 0);
            if (c < 62) due("row: no third cell " + (c + 2), y.cellTold(c + 2), -1);
            if (c > 0) due("row: none ahead of " + c, y.cellTold(c - 1), -1);
        }
    }

    /** "of its first CELL; from the EAST of its last one": where a hand holds a thing, for each cell of the room. */
    private static void thingsAreHeldFromBesideAlone() {
        for (int first : new int[] {0, 6, 7, 8, 14, 27, 55, 56, 62, 63}) {
            for (int wide = 1; wide <= 2; wide++) {
                if (wide == 2 && first % 8 == 7) continue;
                for (int side = 0; side < 4; side++) heldFrom(first, wide, side);
            }
        }
    }

    private static void heldFrom(int first, int wide, int side) {
        int x = first % 8 + (side == 1 ? wide : side == 3 ? -1 : 0), y = first / 8 + (side == 0 ? -1 : side == 2 ? 1 : 0);
        boolean inRoom = x >= 0 && x < 8 && y >= 0 && y < 8;
        for (int k = 0; k < 64; k++) {
            HandsAndWays room = new HandsAndWays();
            room.thing(0, wide, first);
            if (room.hand(1, k) != -1) continue;
            boolean there = inRoom && k == y * 8 + x;
            due("held: " + wide + " wide in " + first + " from side " + side + " by a hand in " + k, room.take(1, 0, side), there ? 0 : -17);
        }
    }

    /** Promise 1: "An empty room; no HANDS in it", "none is at first", "(at first)", "8 at first". */
    private static void nothingIsThereAtFirst() {
        HandsAndWays x = new HandsAndWays();
        for (int c = 0; c < 64; c++) {
            due("first: nothing in " + c, x.cellTold(c), -1);
            due("first: no wall was in " + c, x.wall(c, 0), 0);
        }
        due("first: no thing", x.thingTold(0, 0), -5);
        due("first: no door", x.isOpen(0), -1);
        due("first: no program", x.actTold(0, 0, 3), -5);
        due("first: no rule was used", x.learnt(1), 0);
        due("first: tick 0", x.image(), 0);
        for (int h = 0; h < 2; h++) {
            due("first: hand " + h + " in no cell", x.handTold(h, 0), -1);
            due("first: hand " + h + " holds none", x.handTold(h, 1), -1);
            due("first: hand " + h + " has no program", x.handTold(h, 3), -1);
            due("first: hand " + h + " goes no way", x.way(h, 0), -5);
        }
        due("first: strong", x.strong(1), 8);
        HandsAndWays y = new HandsAndWays();
        due("first: another object has another room", y.strong(2), 8);
    }

    /** Promise 2: its numbers, and "which it was". */
    private static void wallTakesCells() {
        Check.span("wall: cell", HandsAndWays::new, (x, n) -> x.wall(n, 1), 0, 63, -1);
        Check.span("wall: cell, away", HandsAndWays::new, (x, n) -> x.wall(n, 0), 0, 63, -1);
        Check.span("wall: is", RoomEdgesTest::furnished, (x, n) -> x.wall(50, n), 0, 1, -2);
        HandsAndWays x = new HandsAndWays();
        for (int c = 0; c < 64; c++) due("wall: none was in " + c, x.wall(c, 1), 0);
        for (int c = 0; c < 64; c++) due("wall: all are, " + c, x.cellTold(c), -10);
        due("wall: where all are", x.wall(0, 1), 1);
        for (int c = 0; c < 64; c++) due("wall: one was in " + c, x.wall(c, 0), 1);
    }

    /** Promise 2: "STATE: a THING, a HAND is there (of 1)". */
    private static void wallIsRefused() {
        refused("wall: a thing's first cell", x -> x.wall(10, 1), -3);
        refused("wall: a thing's last cell", x -> x.wall(11, 1), -3);
        refused("wall: a thing that is held", x -> x.wall(40, 1), -3);
        refused("wall: hand 0", x -> x.wall(41, 1), -3);
        refused("wall: hand 1", x -> x.wall(49, 1), -3);
        refused("wall: NONE ahead of BAD", x -> x.wall(64, 2), -1);
        refused("wall: BAD ahead of STATE", x -> x.wall(10, 2), -2);
        int[] things = {10, 11, 40, 41, 49};
        for (int c : things) due("wall: away may be where something is, " + c, furnished().wall(c, 0), 0);
        due("wall: behind a thing's last cell", furnished().wall(12, 1), 0);
        due("wall: into a door", furnished().wall(24, 1), 0);
        due("wall: into an open door", furnished().wall(25, 1), 0);
    }

    /** Promise 3: its numbers; "-1: it has none", "-13: that is no KEY". */
    private static void doorTakesCellsAndKeys() {
        Check.span("door: cell", HandsAndWays::new, (x, n) -> x.door(n, -1), 0, 63, -1);
        Check.Maker keys = RoomEdgesTest::eightKeys;
        Check.above("door: key", keys, (x, n) -> x.door(50, n), 7, -1);
        refused("door: key below", x -> x.door(50, -2), -1);
        refused("door: key far below", x -> x.door(50, Integer.MIN_VALUE), -1);
        refused("door: the first that is no thing", x -> x.door(50, 4), -1);
        due("door: the last thing", furnished().door(50, 3), 3);
        due("door: the first thing", furnished().door(50, 0), 3);
        refused("door: a thing as a key", x -> x.door(50, 1), -13);
        refused("door: a jug as a key", x -> x.door(50, 2), -13);
        for (int kind = 0; kind < 6; kind++) {
            HandsAndWays x = new HandsAndWays();
            x.thing(kind, 1, 0);
            due("door: kind " + kind + " as a key", x.door(50, 0), kind == 3 ? 0 : -13);
        }
    }

    private static HandsAndWays eightKeys() {
        HandsAndWays x = new HandsAndWays();
        for (int t = 0; t < 8; t++) x.thing(3, 1, t);
        return x;
    }

    /** Promise 3: "STATE: a WALL, a THING, a HAND is there; FULL", and which comes first. */
    private static void doorIsRefused() {
        refused("door: a wall", x -> x.door(9, -1), -3);
        refused("door: a thing's first cell", x -> x.door(10, -1), -3);
        refused("door: a thing's last cell", x -> x.door(11, 0), -3);
        refused("door: a thing that is held", x -> x.door(40, -1), -3);
        refused("door: hand 0", x -> x.door(41, -1), -3);
        refused("door: hand 1", x -> x.door(49, -1), -3);
        refused("door: NONE of the cell ahead of -13", x -> x.door(64, 1), -1);
        refused("door: NONE of the key ahead of STATE", x -> x.door(9, 4), -1);
        refused("door: -13 ahead of STATE", x -> x.door(9, 1), -13);
        Check.Maker four = () -> {
            HandsAndWays x = furnished();
            due("door: the fourth", x.door(63, -1), 3);
            return x;
        };
        Check.refused("door: FULL", four, x -> x.door(62, -1), -4);
        Check.refused("door: NONE ahead of FULL", four, x -> x.door(62, 4), -1);
        Check.refused("door: -13 ahead of FULL", four, x -> x.door(62, 1), -13);
        Check.refused("door: STATE ahead of FULL", four, x -> x.door(10, -1), -3);
        due("door: the fourth is shut", four.make().isOpen(3), 0);
        due("door: there is no fifth", four.make().isOpen(4), -1);
    }

    /** "DOORS .. SHUT at first, then OPEN": an open one bars no wall, no thing, no hand. */
    private static void whatIsOpenIsFree() {
        due("open: nothing is told", furnished().cellTold(25), -1);
        due("open: a thing", furnished().thing(0, 1, 25), 4);
        due("open: a door more", furnished().door(25, -1), 3);
        HandsAndWays x = furnished();
        x.put(0);
        due("open: a hand", x.hand(0, 25), 41);
        due("open: it is beside, and it is open", x.open(0, 2), -15);
    }

    /** Promise 4: its numbers. */
    private static void thingTakesKindsAndCells() {
        Check.span("thing: cell", HandsAndWays::new, (x, n) -> x.thing(0, 1, n), 0, 63, -1);
        Check.span("thing: kind", RoomEdgesTest::furnished, (x, n) -> x.thing(n, 1, 50), 0, 5, -2);
        Check.span("thing: wide", RoomEdgesTest::furnished, (x, n) -> x.thing(0, n, 50), 1, 2, -2);
        due("thing: two wide in the last cells", new HandsAndWays().thing(0, 2, 62), 0);
        refused("thing: two wide behind the last cell", x -> x.thing(0, 2, 64), -1);
    }

    /** Promise 4: "STATE: not in the room, a CELL isn't FREE (of any HAND); FULL". */
    private static void thingIsRefused() {
        refused("thing: not in one row", x -> x.thing(0, 2, 55), -3);
        refused("thing: not in the room", x -> x.thing(0, 2, 63), -3);
        refused("thing: a wall", x -> x.thing(0, 1, 9), -3);
        refused("thing: a wall in its last cell", x -> x.thing(0, 2, 8), -3);
        refused("thing: a shut door", x -> x.thing(0, 1, 24), -3);
        refused("thing: a shut door in its last cell", x -> x.thing(0, 2, 25), -3);
        refused("thing: a thing", x -> x.thing(0, 1, 20), -3);
        refused("thing: a thing in its last cell", x -> x.thing(0, 2, 19), -3);
        refused("thing: a thing's last cell", x -> x.thing(0, 1, 11), -3);
        refused("thing: a thing that is held", x -> x.thing(0, 1, 40), -3);
        refused("thing: hand 0", x -> x.thing(0, 1, 41), -3);
        refused("thing: hand 1 in its last cell", x -> x.thing(0, 2, 48), -3);
        refused("thing: hand 1", x -> x.thing(0, 1, 49), -3);
        refused("thing: NONE ahead of BAD", x -> x.thing(6, 3, 64), -1);
        refused("thing: BAD of the kind ahead of STATE", x -> x.thing(6, 1, 9), -2);
        refused("thing: BAD of wide ahead of STATE", x -> x.thing(0, 0, 9), -2);
        Check.refused("thing: FULL", RoomEdgesTest::eightKeys, x -> x.thing(0, 1, 50), -4);
        Check.refused("thing: NONE ahead of FULL", RoomEdgesTest::eightKeys, x -> x.thing(0, 1, 64), -1);
        Check.refused("thing: BAD ahead of FULL", RoomEdgesTest::eightKeys, x -> x.thing(6, 1, 50), -2);
        Check.refused("thing: STATE ahead of FULL", RoomEdgesTest::eightKeys, x -> x.thing(0, 1, 7), -3);
        due("thing: the eighth", eightKeys().count(1), 8);
        due("thing: ends ahead of a wall", furnished().thing(0, 1, 8), 4);
        due("thing: begins behind a thing", furnished().thing(0, 2, 12), 4);
    }

    /** Promise 5: its numbers, "where it was (-1: not there)". */
    private static void handTakesCells() {
        Check.span("hand: hand", HandsAndWays::new, (x, n) -> x.hand(n, 50), 0, 1, -5);
        Check.span("hand: cell of 0", HandsAndWays::new, (x, n) -> x.hand(0, n), 0, 63, -5);
        Check.span("hand: cell of 1", RoomEdgesTest::furnished, (x, n) -> x.hand(1, n), 0, 63, -5);
        HandsAndWays x = new HandsAndWays();
        due("hand: was not there", x.hand(1, 0), -1);
        due("hand: was in the first cell", x.hand(1, 63), 0);
        due("hand: was in the last cell", x.hand(1, 63), 63);
        due("hand: the other one was not there", x.hand(0, 0), -1);
        due("hand: that is no step", x.handTold(1, 2), 0);
    }

    /** Promise 5: "STATE: it holds one, the CELL isn't FREE". */
    private static void handIsRefused() {
        refused("hand: it holds one", x -> x.hand(0, 63), -3);
        refused("hand: it holds one, to its own cell", x -> x.hand(0, 41), -3);
        refused("hand: -5 ahead of STATE", x -> x.hand(0, 64), -5);
        refused("hand: a wall", x -> x.hand(1, 9), -3);
        refused("hand: a shut door", x -> x.hand(1, 24), -3);
        refused("hand: a thing's first cell", x -> x.hand(1, 10), -3);
        refused("hand: a thing's last cell", x -> x.hand(1, 11), -3);
        refused("hand: what the other one holds", x -> x.hand(1, 40), -3);
        refused("hand: the other one", x -> x.hand(1, 41), -3);
        due("hand: its own cell", furnished().hand(1, 49), 49);
        for (int t = 0; t < 8; t++) {
            HandsAndWays x = eightThings(t);
            due("hand: holds thing " + t, x.take(1, t, 3), 0);
            due("hand: it holds one, thing " + t, x.hand(1, 20), -3);
            x.put(1);
            due("hand: it holds none, thing " + t, x.hand(1, 20), 0);
        }
    }

    /** Thing t lies beside hand 1, which is in the first cell. */
    private static HandsAndWays eightThings(int t) {
        HandsAndWays x = new HandsAndWays();
        for (int k = 0; k < 8; k++) x.thing(0, 1, k == t ? 1 : 48 + k);
        x.hand(1, 0);
        return x;
    }

    /** Promise 6: "STRONG (1 .. 99; 8 at first) both". */
    private static void strongTakesNumbers() {
        Check.span("strong", RoomEdgesTest::furnished, (x, n) -> x.strong(n), 1, 99, -2);
        HandsAndWays x = new HandsAndWays();
        due("strong: at first", x.strong(1), 8);
        due("strong: the least", x.strong(99), 1);
        due("strong: the greatest", x.strong(7), 99);
        for (int h = 0; h < 2; h++) {
            HandsAndWays y = new HandsAndWays();
            y.thing(1, 2, 9);
            y.hand(h, 8);
            y.strong(6);
            due("strong: one less than it weighs, hand " + h, y.take(h, 0, 3), -13);
            y.strong(7);
            due("strong: what it weighs, hand " + h, y.take(h, 0, 3), 0);
            y.strong(1);
            due("strong: what is held stays held, hand " + h, y.go(h, 0), 1);
        }
    }

    public static void main(String[] args) {
        noCellIsBesideRoundTheEdge();
        doorsAreOpenedFromBesideAlone();
        thingsLieInOneRow();
        thingsAreHeldFromBesideAlone();
        nothingIsThereAtFirst();
        wallTakesCells();
        wallIsRefused();
        doorTakesCellsAndKeys();
        doorIsRefused();
        whatIsOpenIsFree();
        thingTakesKindsAndCells();
        thingIsRefused();
        handTakesCells();
        handIsRefused();
        strongTakesNumbers();
        Check.end("RoomEdgesTest");
    }
}
