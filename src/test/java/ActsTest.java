/** Promises 7 to 10: go, take, put, open. */
public final class ActsTest {
    private static void due(String what, long got, long want) { Check.due(what, got, want); }

    /** Promise 7. */
    private static void goTellsHowFar() {
        HandsAndWays x = new HandsAndWays();
        due("go: not there", x.go(0, 5), -5);
        x.hand(0, 0);
        due("go: no such hand", x.go(2, 5), -5);
        due("go: no such hand below", x.go(-1, 5), -5);
        due("go: no such cell", x.go(0, 64), -5);
        due("go: no such cell below", x.go(0, -1), -5);
        due("go: far", x.go(0, 63), 14);
        due("go: is there", x.handTold(0, 0), 63);
        due("go: stays", x.go(0, 63), 0);
        due("go: steps", x.handTold(0, 2), 14);
        x.wall(55, 1);
        x.wall(62, 1);
        due("go: no way", x.go(0, 0), -14);
        due("go: stayed", x.handTold(0, 0), 63);
        due("go: no more steps", x.handTold(0, 2), 14);
    }

    /** Promise 7, with a thing. */
    private static void goCarries() {
        HandsAndWays x = new HandsAndWays();
        x.hand(0, 9);
        x.thing(0, 2, 10);
        x.take(0, 0, 3);
        due("carry: far", x.go(0, 37), 7);
        due("carry: the thing too", x.thingTold(0, 1), 38);
        due("carry: it would leave its row", x.go(0, 38), -14);
        due("carry: still held", x.thingTold(0, 2), 0);
        HandsAndWays y = new HandsAndWays();
        y.hand(0, 9);
        y.thing(2, 1, 10);
        y.take(0, 0, 3);
        due("carry: doesn't turn up", y.go(0, 1), -14);
        due("carry: not south", y.go(0, 17), -14);
        due("carry: east", y.go(0, 14), 5);
        due("carry: west", y.go(0, 8), 6);
        y.put(0);
        due("carry: north without it", y.go(0, 0), 1);
    }

    /** Promise 8. */
    private static void takeFromEachSide() {
        int[] ofOne = {19, 28, 35, 26}, ofTwo = {19, 29, 35, 26};
        for (int wide = 1; wide <= 2; wide++) {
            for (int side = 0; side < 4; side++) {
                for (int kind = 0; kind < 6; kind++) {
                    HandsAndWays x = new HandsAndWays();
                    x.strong(99);
                    x.thing(kind, wide, 27);
                    String name = "take: kind " + kind + " wide " + wide + " side " + side;
                    boolean can = (new int[] {15, 10, 13, 15, 10, 5}[kind] >> side & 1) != 0;
                    x.hand(0, 63);
                    due(name + " from afar", x.take(0, 0, side), can ? -17 : -12);
                    x.hand(0, (wide == 1 ? ofOne : ofTwo)[side]);
                    due(name, x.take(0, 0, side), can ? 0 : -12);
                    due(name + " by", x.thingTold(0, 2), can ? 0 : -1);
                    due(name + " from", x.thingTold(0, 3), can ? side : -1);
                    due(name + " holds", x.handTold(0, 1), can ? 0 : -1);
                }
            }
        }
    }

    /** Promise 8, what is refused. */
    private static void takeTellsWhy() {
        HandsAndWays x = new HandsAndWays();
        x.thing(1, 2, 8);
        x.thing(0, 1, 23);
        due("take: not there", x.take(0, 0, 1), -11);
        due("take: no such hand", x.take(2, 0, 1), -5);
        due("take: no such thing", x.take(0, 2, 1), -5);
        due("take: no such thing below", x.take(0, -1, 1), -5);
        due("take: no such side", x.take(0, 0, 4), -5);
        due("take: no such side below", x.take(0, 0, -1), -5);
        x.hand(0, 0);
        x.strong(6);
        due("take: side ahead of weight", x.take(0, 0, 0), -12);
        due("take: weight ahead of place", x.take(0, 0, 1), -13);
        x.strong(7);
        due("take: place", x.take(0, 0, 1), -17);
        x.hand(0, 24);
        due("take: not round the edge", x.take(0, 1, 1), -17);
        x.hand(0, 10);
        due("take: from the east of its last cell", x.take(0, 0, 1), 0);
        due("take: it holds one", x.take(0, 1, 1), -11);
        x.hand(1, 15);
        due("take: it is held", x.take(1, 0, 1), -11);
        due("take: the other one", x.take(1, 1, 0), 0);
    }

    /** Promise 9. */
    private static void putWhereItIs() {
        HandsAndWays x = new HandsAndWays();
        due("put: no such hand", x.put(2), -5);
        due("put: no such hand below", x.put(-1), -5);
        due("put: not there", x.put(0), -11);
        x.hand(0, 0);
        due("put: holds none", x.put(0), -11);
        x.thing(0, 1, 1);
        x.take(0, 0, 3);
        x.go(0, 8);
        due("put", x.put(0), 0);
        due("put: lies", x.thingTold(0, 1), 9);
        due("put: by none", x.thingTold(0, 2), -1);
        due("put: from no side", x.thingTold(0, 3), -1);
        due("put: hand is empty", x.handTold(0, 1), -1);
        due("put: again", x.put(0), -11);
        due("put: stays there", x.go(0, 16), 1);
        due("put: stayed there", x.thingTold(0, 1), 9);
    }

    /** Promise 10. */
    private static void openWithTheKey() {
        HandsAndWays x = new HandsAndWays();
        x.thing(3, 1, 10);
        x.thing(3, 1, 40);
        x.door(12, 0);
        x.door(63, -1);
        due("open: no such hand", x.open(2, 0), -5);
        due("open: no such door", x.open(0, 2), -5);
        due("open: no such door below", x.open(0, -1), -5);
        due("open: not there", x.open(0, 0), -11);
        x.hand(0, 9);
        due("open: not beside, ahead of the key", x.open(0, 0), -17);
        due("open: not round the edge", x.open(0, 1), -17);
        x.hand(0, 4);
        due("open: without the key", x.open(0, 0), -16);
        x.hand(0, 41);
        x.take(0, 1, 1);
        x.go(0, 4);
        due("open: with another key", x.open(0, 0), -16);
        x.put(0);
        x.go(0, 2);
        x.take(0, 0, 0);
        x.go(0, 5);
        due("open: diagonal", x.open(0, 0), -17);
        due("open: still shut", x.isOpen(0), 0);
    }

    /** Promise 10, with the key in hand. */
    private static void openFromEachSide() {
        int[] beside = {19, 28, 35, 26};
        for (int side = 0; side < 4; side++) {
            HandsAndWays x = new HandsAndWays();
            x.door(27, -1);
            x.hand(1, beside[side]);
            due("open: side " + side, x.open(1, 0), 0);
            due("open: it is", x.isOpen(0), 1);
            due("open: nothing is there", x.cellTold(27), -1);
            due("open: again", x.open(1, 0), -15);
            x.hand(1, 0);
            due("open: it is open ahead of not beside", x.open(1, 0), -15);
        }
        HandsAndWays x = new HandsAndWays();
        x.thing(3, 1, 18);
        x.door(28, 0);
        x.hand(0, 19);
        x.take(0, 0, 1);
        x.go(0, 20);
        due("open: with the key", x.open(0, 0), 0);
        due("open: goes through with it", x.go(0, 28), 1);
        due("open: the key is in the row", x.thingTold(0, 1), 27);
    }

    public static void main(String[] args) {
        goTellsHowFar();
        goCarries();
        takeFromEachSide();
        takeTellsWhy();
        putWhereItIs();
        openWithTheKey();
        openFromEachSide();
        Check.end("ActsTest");
    }
}
