/** Promises 1 to 6: a new object, wall, door, thing, hand, strong; and what is free. */
public final class RoomTest {
    private static void due(String what, long got, long want) { Check.due(what, got, want); }

    /** Promise 1. */
    private static void aNewObjectIsEmpty() {
        HandsAndWays x = new HandsAndWays();
        for (int c = 0; c < 64; c++) due("new: cellTold " + c, x.cellTold(c), -1);
        int[] counts = {0, 0, 0, 0, 0, 8, 0, 0};
        for (int i = 0; i < 8; i++) due("new: count " + i, x.count(i), counts[i]);
        int[] told = {-1, -1, 0, -1, 0, 0};
        for (int h = 0; h < 2; h++) for (int i = 0; i < 6; i++) due("new: handTold " + h + " " + i, x.handTold(h, i), told[i]);
        for (int i = 0; i < 3; i++) due("new: learnt " + i, x.learnt(i), 0);
        due("new: planned far", x.planned(0, 3), 0);
        due("new: back", x.back(), -3);
        for (int s = 0; s < 4; s++) due("new: no sheet " + s, x.cell(s, 0, 0), -11);
    }

    /** Promise 2. */
    private static void wallIsBuiltAndTakenAway() {
        HandsAndWays x = new HandsAndWays();
        due("wall: was none", x.wall(63, 1), 0);
        due("wall: was one", x.wall(63, 1), 1);
        due("wall: stands", x.cellTold(63), -10);
        due("wall: none any more", x.wall(63, 0), 1);
        due("wall: was none again", x.wall(63, 0), 0);
        due("wall: cell is free", x.cellTold(63), -1);
        due("wall: below", x.wall(-1, 1), -1);
        due("wall: above", x.wall(64, 1), -1);
        due("wall: NONE ahead of BAD", x.wall(64, 7), -1);
        due("wall: BAD", x.wall(0, 2), -2);
        due("wall: BAD below", x.wall(0, -1), -2);
        x.thing(0, 2, 10);
        x.hand(1, 20);
        due("wall: BAD ahead of STATE", x.wall(10, 2), -2);
        due("wall: a thing", x.wall(10, 1), -3);
        due("wall: a thing's second cell", x.wall(11, 1), -3);
        due("wall: a hand", x.wall(20, 1), -3);
        due("wall: away where a thing is", x.wall(11, 0), 0);
        due("wall: away where a hand is", x.wall(20, 0), 0);
        x.door(30, -1);
        due("wall: where a door is", x.wall(30, 1), 0);
        due("wall: told ahead of the door", x.cellTold(30), -10);
    }

    /** Promise 3. */
    private static void doorsAreNumbered() {
        HandsAndWays x = new HandsAndWays();
        x.thing(3, 2, 0);
        x.thing(0, 1, 8);
        x.hand(0, 16);
        x.wall(24, 1);
        due("door: cell below", x.door(-1, -1), -1);
        due("door: cell above", x.door(64, -1), -1);
        due("door: no such key", x.door(32, 2), -1);
        due("door: key below", x.door(32, -2), -1);
        due("door: no key", x.door(32, 1), -13);
        due("door: -13 ahead of STATE", x.door(24, 1), -13);
        due("door: a wall", x.door(24, 0), -3);
        due("door: a thing", x.door(1, -1), -3);
        due("door: a hand", x.door(16, -1), -3);
        due("door: 0", x.door(40, 0), 0);
        due("door: shut", x.isOpen(0), 0);
        due("door: told", x.cellTold(40), -11);
        due("door: 1", x.door(41, -1), 1);
        due("door: 2, in the same cell", x.door(41, 0), 2);
        due("door: 3", x.door(43, -1), 3);
        due("door: STATE ahead of FULL", x.door(24, -1), -3);
        due("door: FULL", x.door(44, -1), -4);
        due("door: counted", x.count(2), 4);
        due("door: nothing there", x.cellTold(44), -1);
    }

    /** Promise 4. */
    private static void thingsLieInFreeCells() {
        HandsAndWays x = new HandsAndWays();
        x.wall(10, 1);
        x.door(12, -1);
        x.hand(1, 14);
        due("thing: NONE", x.thing(0, 1, 64), -1);
        due("thing: NONE below", x.thing(0, 1, -1), -1);
        due("thing: NONE ahead of BAD", x.thing(9, 9, 64), -1);
        due("thing: KIND", x.thing(6, 1, 0), -2);
        due("thing: KIND below", x.thing(-1, 1, 0), -2);
        due("thing: WIDE 0", x.thing(0, 0, 0), -2);
        due("thing: WIDE 3", x.thing(0, 3, 0), -2);
        due("thing: BAD ahead of STATE", x.thing(0, 3, 10), -2);
        due("thing: beyond its row", x.thing(0, 2, 23), -3);
        due("thing: beyond the room", x.thing(0, 2, 63), -3);
        due("thing: a wall", x.thing(0, 1, 10), -3);
        due("thing: a wall in its second cell", x.thing(0, 2, 9), -3);
        due("thing: a shut door", x.thing(0, 2, 11), -3);
        due("thing: a hand", x.thing(0, 2, 13), -3);
        due("thing: 0", x.thing(0, 2, 0), 0);
        due("thing: its first cell", x.cellTold(0), 0);
        due("thing: its last cell", x.cellTold(1), 0);
        due("thing: another one", x.thing(0, 1, 1), -3);
        x.hand(1, 13);
        x.open(1, 0);
        due("thing: an open door", x.thing(4, 1, 12), 1);
        for (int t = 2; t < 8; t++) due("thing: " + t, x.thing(5, 1, 54 + t), t);
        due("thing: STATE ahead of FULL", x.thing(0, 1, 10), -3);
        due("thing: FULL", x.thing(0, 1, 30), -4);
        due("thing: counted", x.count(1), 8);
        due("thing: nothing there", x.cellTold(30), -1);
    }

    /** Promise 5. */
    private static void handsStandInFreeCells() {
        HandsAndWays x = new HandsAndWays();
        x.wall(10, 1);
        x.door(12, -1);
        x.thing(0, 2, 20);
        due("hand: 0 came", x.hand(0, 0), -1);
        due("hand: 0 went", x.hand(0, 63), 0);
        due("hand: its own cell", x.hand(0, 63), 63);
        due("hand: steps stay", x.handTold(0, 2), 0);
        due("hand: 1 came", x.hand(1, 0), -1);
        due("hand: no such hand", x.hand(2, 1), -5);
        due("hand: no such hand below", x.hand(-1, 1), -5);
        due("hand: no such cell", x.hand(0, 64), -5);
        due("hand: no such cell below", x.hand(0, -1), -5);
        due("hand: the other hand", x.hand(0, 0), -3);
        due("hand: a wall", x.hand(0, 10), -3);
        due("hand: a shut door", x.hand(0, 12), -3);
        due("hand: a thing", x.hand(0, 21), -3);
        due("hand: stayed", x.handTold(0, 0), 63);
        x.hand(0, 19);
        due("hand: takes", x.take(0, 0, 3), 0);
        due("hand: it holds one", x.hand(0, 40), -3);
        due("hand: -5 ahead of STATE", x.hand(0, 64), -5);
        x.hand(1, 11);
        x.open(1, 0);
        due("hand: an open door", x.hand(1, 12), 11);
    }

    /** Promise 6. */
    private static void strongIsOfBothHands() {
        HandsAndWays x = new HandsAndWays();
        due("strong: 8 at first", x.strong(1), 8);
        due("strong: was 1", x.strong(99), 1);
        due("strong: 0", x.strong(0), -2);
        due("strong: 100", x.strong(100), -2);
        due("strong: below", x.strong(Integer.MIN_VALUE), -2);
        due("strong: stayed", x.count(5), 99);
        due("strong: was 99", x.strong(2), 99);
        x.thing(0, 1, 9);
        x.thing(0, 2, 25);
        x.hand(0, 8);
        x.hand(1, 24);
        due("strong: heavy as strong", x.take(0, 0, 3), 0);
        due("strong: too heavy", x.take(1, 1, 3), -13);
    }

    public static void main(String[] args) {
        aNewObjectIsEmpty();
        wallIsBuiltAndTakenAway();
        doorsAreNumbered();
        thingsLieInFreeCells();
        handsStandInFreeCells();
        strongIsOfBothHands();
        Check.end("RoomTest");
    }
}
