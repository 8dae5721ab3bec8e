/** Promises 15 to 20: thingTold, handTold, kindTold, cellTold, isOpen, count. */
public final class LookingTest {
    private static void due(String what, long got, long want) { Check.due(what, got, want); }

    /** Promise 15. */
    private static void thingsAreTold() {
        HandsAndWays x = new HandsAndWays();
        due("thingTold: none yet", x.thingTold(0, 0), -5);
        x.thing(5, 2, 9);
        x.thing(4, 1, 30);
        int[] flask = {5, 9, -1, -1, 5, 3, 2}, chest = {4, 30, -1, -1, 10, 10, 1};
        for (int i = 0; i < 7; i++) {
            due("thingTold: flask " + i, x.thingTold(0, i), flask[i]);
            due("thingTold: chest " + i, x.thingTold(1, i), chest[i]);
        }
        x.hand(1, 17);
        x.take(1, 0, 2);
        x.go(1, 18);
        int[] held = {5, 10, 1, 2, 5, 3, 2};
        for (int i = 0; i < 7; i++) due("thingTold: held flask " + i, x.thingTold(0, i), held[i]);
        due("thingTold: no such thing", x.thingTold(2, 0), -5);
        due("thingTold: below", x.thingTold(-1, 0), -5);
        due("thingTold: -5 ahead of -7", x.thingTold(2, 9), -5);
        due("thingTold: what", x.thingTold(0, 7), -7);
        due("thingTold: what below", x.thingTold(0, -1), -7);
    }

    /** Promise 16. */
    private static void handsAreTold() {
        HandsAndWays x = new HandsAndWays();
        due("handTold: no such hand", x.handTold(2, 0), -5);
        due("handTold: below", x.handTold(-1, 0), -5);
        due("handTold: -5 ahead of -7", x.handTold(2, 9), -5);
        due("handTold: what", x.handTold(0, 6), -7);
        due("handTold: what below", x.handTold(1, -1), -7);
        x.thing(0, 1, 2);
        x.hand(1, 9);
        Check.program(x, "p;");
        Check.program(x, "g1;t0w;g12;");
        x.start(1, 1);
        x.run(2);
        int[] told = {1, 0, 1, 1, 2, 0}, other = {-1, -1, 0, -1, 0, 0};
        for (int i = 0; i < 6; i++) {
            due("handTold: " + i, x.handTold(1, i), told[i]);
            due("handTold: the other's " + i, x.handTold(0, i), other[i]);
        }
        x.wall(0, 1);
        x.wall(3, 1);
        x.wall(10, 1);
        x.run(3);
        int[] blocked = {1, 0, 1, 1, 2, 3};
        for (int i = 0; i < 6; i++) due("handTold: blocked " + i, x.handTold(1, i), blocked[i]);
    }

    /** Promise 17. */
    private static void kindsAreTold() {
        HandsAndWays x = new HandsAndWays();
        int[] sides = {15, 10, 13, 15, 10, 5}, one = {2, 5, 2, 1, 10, 1}, two = {4, 7, 4, 2, 14, 3};
        int[] key = {0, 0, 0, 1, 0, 0}, up = {1, 1, 0, 1, 1, 0};
        for (int k = 0; k < 6; k++) {
            due("kindTold: sides " + k, x.kindTold(k, 1, 0), sides[k]);
            due("kindTold: sides of two " + k, x.kindTold(k, 2, 0), sides[k]);
            due("kindTold: weight " + k, x.kindTold(k, 1, 1), one[k]);
            due("kindTold: weight of two " + k, x.kindTold(k, 2, 1), two[k]);
            due("kindTold: key " + k, x.kindTold(k, 1, 2), key[k]);
            due("kindTold: up " + k, x.kindTold(k, 2, 3), up[k]);
        }
        due("kindTold: kind", x.kindTold(6, 1, 0), -2);
        due("kindTold: kind below", x.kindTold(-1, 1, 0), -2);
        due("kindTold: wide", x.kindTold(0, 3, 0), -2);
        due("kindTold: wide 0", x.kindTold(0, 0, 0), -2);
        due("kindTold: what", x.kindTold(0, 1, 4), -2);
        due("kindTold: what below", x.kindTold(0, 1, -1), -2);
    }

    /** Promise 18. */
    private static void cellsAreTold() {
        HandsAndWays x = new HandsAndWays();
        due("cellTold: nothing", x.cellTold(0), -1);
        due("cellTold: no such cell", x.cellTold(64), -5);
        due("cellTold: below", x.cellTold(-1), -5);
        x.thing(0, 1, 0);
        x.thing(0, 2, 1);
        x.hand(0, 8);
        x.hand(1, 9);
        due("cellTold: a thing", x.cellTold(0), 0);
        due("cellTold: a thing's first", x.cellTold(1), 1);
        due("cellTold: a thing's last", x.cellTold(2), 1);
        due("cellTold: hand 0", x.cellTold(8), 100);
        due("cellTold: hand 1", x.cellTold(9), 101);
        x.door(10, -1);
        due("cellTold: a shut door", x.cellTold(10), -11);
        x.wall(10, 1);
        due("cellTold: a wall ahead of it", x.cellTold(10), -10);
        x.wall(10, 0);
        x.open(1, 0);
        due("cellTold: an open door", x.cellTold(10), -1);
        x.image();
        x.hand(1, 63);
        x.hand(0, 62);
        x.wall(9, 1);
        x.door(8, -1);
        x.back();
        due("cellTold: a wall ahead of a hand", x.cellTold(9), -10);
        due("cellTold: a shut door ahead of a hand", x.cellTold(8), -11);
    }

    /** Promise 18: what stands in a thing's cell since an image. */
    private static void cellsAreToldBehindAnImage() {
        HandsAndWays x = new HandsAndWays();
        x.thing(0, 1, 0);
        x.hand(0, 8);
        x.image();
        x.take(0, 0, 2);
        x.go(0, 40);
        x.door(0, -1);
        x.back();
        due("cellTold: a shut door ahead of a thing", x.cellTold(0), -11);
        due("cellTold: open it", x.open(0, 0), 0);
        due("cellTold: then the thing", x.cellTold(0), 0);
    }

    /** Promise 19. */
    private static void doorsAreTold() {
        HandsAndWays x = new HandsAndWays();
        due("isOpen: none yet", x.isOpen(0), -1);
        x.door(0, -1);
        x.door(9, -1);
        due("isOpen: below", x.isOpen(-1), -1);
        due("isOpen: above", x.isOpen(2), -1);
        due("isOpen: shut", x.isOpen(1), 0);
        x.hand(0, 8);
        x.open(0, 1);
        due("isOpen: open", x.isOpen(1), 1);
        due("isOpen: the other one", x.isOpen(0), 0);
    }

    /** Promise 20. */
    private static void allIsCounted() {
        HandsAndWays x = new HandsAndWays();
        x.run(7);
        x.thing(1, 1, 63);
        x.thing(3, 1, 0);
        x.door(5, -1);
        x.door(6, -1);
        x.door(7, 1);
        for (int i = 0; i < 4; i++) Check.program(x, "w1;");
        Check.feed(x, "w2;p;");
        x.strong(4);
        for (int i = 0; i < 6; i++) x.maybe(0, i, 1);
        x.hand(0, 30);
        Check.sheet(x, 0);
        x.plan(0, 0, 20, 0, 0);
        int[] due = {7, 2, 3, 4, 5, 4, 6, 1};
        for (int i = 0; i < 8; i++) due("count: " + i, x.count(i), due[i]);
        due("count: above", x.count(8), -2);
        due("count: below", x.count(-1), -2);
    }

    public static void main(String[] args) {
        thingsAreTold();
        handsAreTold();
        kindsAreTold();
        cellsAreTold();
        cellsAreToldBehindAnImage();
        doorsAreTold();
        allIsCounted();
        Check.end("LookingTest");
    }
}
