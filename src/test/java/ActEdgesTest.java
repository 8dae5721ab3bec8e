/** The edges that the document names: of acts and why one can't be done (Terms, part 2), and of promises 7 to 10. */
public final class ActEdgesTest {
    private static void due(String what, long got, long want) { Check.due(what, got, want); }

    private static void refused(String what, Check.Call call, int want) {
        Check.refused(what, ActEdgesTest::furnished, call, want);
    }

    /** Hand 0 is empty in the midst of things; hand 1 is not there; thing 4 lies nowhere, thing 5 is not there. */
    private static HandsAndWays furnished() {
        HandsAndWays x = new HandsAndWays();
        x.hand(0, 27);
        x.thing(0, 1, 28);
        x.thing(4, 1, 26);
        x.thing(2, 2, 35);
        x.thing(3, 1, 63);
        x.door(19, 3);
        x.door(0, -1);
        x.image();
        x.thing(0, 1, 40);
        x.back();
        return x;
    }

    /** The same, with the thing to the east in hand. */
    private static HandsAndWays holding() {
        HandsAndWays x = furnished();
        x.take(0, 0, 3);
        return x;
    }

    /** The same, with both hands there, hand 1 holding what lies to the west. */
    private static HandsAndWays bothHolding() {
        HandsAndWays x = holding();
        x.strong(10);
        x.hand(1, 25);
        x.take(1, 1, 3);
        return x;
    }

    /** Promise 7: "-5: HAND (not there, too), CELL". */
    private static void goTakesHandsAndCells() {
        Check.span("go: hand", ActEdgesTest::bothHolding, (x, n) -> x.go(n, n == 0 ? 27 : 25), 0, 1, -5);
        Check.span("go: cell", () -> {
            HandsAndWays x = new HandsAndWays();
            x.hand(1, 9);
            return x;
        }, (x, n) -> x.go(1, n), 0, 63, -5);
        refused("go: hand not there", x -> x.go(1, 5), -5);
        refused("go: hand not there, no such cell", x -> x.go(1, 64), -5);
        refused("go: no hand is there", x -> x.go(-1, 5), -5);
    }

    /** Promise 7: "GO: how FAR", "-10 less WHY", WHY 4: "there is no WAY". */
    private static void goTellsHowFar() {
        due("go: where it is", furnished().go(0, 27), 0);
        due("go: where it is, with a thing", holding().go(0, 27), 0);
        refused("go: a thing is there", x -> x.go(0, 28), -14);
        refused("go: a thing's last cell", x -> x.go(0, 36), -14);
        refused("go: a shut door", x -> x.go(0, 19), -14);
        Check.refused("go: the other hand", ActEdgesTest::bothHolding, x -> x.go(1, 27), -14);
        Check.refused("go: what the other hand holds", ActEdgesTest::bothHolding, x -> x.go(0, 26), -14);
        Check.refused("go: its thing would not be in the room", ActEdgesTest::holding, x -> x.go(0, 63), -14);
        Check.refused("go: its thing would be in another row", ActEdgesTest::holding, x -> x.go(0, 7), -14);
        Check.refused("go: walled in", () -> {
            HandsAndWays x = new HandsAndWays();
            x.hand(0, 0);
            x.wall(1, 1);
            x.wall(8, 1);
            return x;
        }, x -> x.go(0, 2), -14);
        HandsAndWays x = new HandsAndWays();
        x.hand(0, 0);
        due("go: from the first cell to the last", x.go(0, 63), 14);
        due("go: all steps", x.go(0, 0), 14);
        due("go: went", x.handTold(0, 2), 28);
    }

    /** "FAR: the fewest steps": the longest way that there is, to and fro through the rows. */
    private static void theLongestWay() {
        HandsAndWays x = new HandsAndWays();
        for (int y = 1; y < 8; y += 2) {
            for (int k = 0; k < 8; k++) {
                if (k != (y % 4 == 1 ? 7 : 0)) x.wall(y * 8 + k, 1);
            }
        }
        x.hand(0, 0);
        due("go: to and fro", x.go(0, 48), 4 * 7 + 3 * 2);
        due("go: and back", x.go(0, 0), 34);
        due("go: a step short", x.go(0, 49), 33);
    }

    /** Promise 8: "-5: HAND, THING, side". */
    private static void takeTakesNumbers() {
        Check.span("take: hand", () -> {
            HandsAndWays x = furnished();
            x.hand(1, 29);
            return x;
        }, (x, n) -> x.take(n, 0, n == 0 ? 3 : 1), 0, 1, -5);
        Check.span("take: thing", ActEdgesTest::eightThings, (x, n) -> x.take(0, n, 3), 0, 7, -5);
        refused("take: a thing that is not there yet", x -> x.take(0, 5, 3), -5);
        Check.span("take: side", ActEdgesTest::eightThings, (x, n) -> x.take(0, 0, n), 0, 3, -5);
        refused("take: -5 ahead of WHY 1", x -> x.take(1, 5, 3), -5);
        refused("take: no such side, ahead of WHY 1", x -> x.take(1, 0, 4), -5);
        due("take: no thing in the room", new HandsAndWays().take(0, 0, 0), -5);
    }

    private static HandsAndWays eightThings() {
        HandsAndWays x = new HandsAndWays();
        for (int t = 0; t < 8; t++) x.thing(0, 1, 8 * t + 1);
        x.hand(0, 56);
        return x;
    }

    /** "WHY .. the first of: 1 the HAND is not there, TAKE: it holds one, there is no such THING, it doesn't lie, it is HELD". */
    private static void takeTellsTheFirstWhy() {
        refused("take: not there, ahead of all", x -> x.take(1, 1, 0), -11);
        refused("take: it doesn't lie, ahead of where the hand is", x -> x.take(0, 4, 0), -11);
        Check.Maker weak = () -> {
            HandsAndWays x = furnished();
            x.strong(1);
            return x;
        };
        Check.refused("take: it doesn't lie, ahead of too heavy", weak, x -> x.take(0, 4, 0), -11);
        Check.refused("take: holds one, ahead of the side", ActEdgesTest::holding, x -> x.take(0, 1, 0), -11);
        Check.refused("take: holds it", ActEdgesTest::holding, x -> x.take(0, 0, 3), -11);
        Check.refused("take: holds one, ahead of too heavy", ActEdgesTest::holding, x -> x.take(0, 1, 1), -11);
        Check.refused("take: holds one, ahead of where the hand is", ActEdgesTest::holding, x -> x.take(0, 3, 1), -11);
        Check.Maker held = () -> {
            HandsAndWays x = bothHolding();
            x.put(0);
            x.strong(1);
            return x;
        };
        Check.refused("take: it is held, ahead of the side", held, x -> x.take(0, 1, 0), -11);
        Check.refused("take: it is held, ahead of too heavy", held, x -> x.take(0, 1, 1), -11);
        refused("take: the side ahead of too heavy", x -> x.take(0, 1, 0), -12);
        Check.refused("take: the side ahead of where the hand is", weak, x -> x.take(0, 2, 1), -12);
        refused("take: too heavy ahead of where the hand is", x -> x.take(0, 1, 3), -13);
        refused("take: too heavy", x -> x.take(0, 1, 1), -13);
        refused("take: where the hand is", x -> x.take(0, 0, 1), -17);
        refused("take: no side of a thing far off", x -> x.take(0, 3, 0), -17);
        due("take: its first cell's side", furnished().take(0, 2, 0), 0);
    }

    /** "WEIGHT is not above STRONG": of each kind, what is just not too heavy, and what just is. */
    private static void takeByWeight() {
        int[] one = {2, 5, 2, 1, 10, 1}, two = {4, 7, 4, 2, 14, 3}, side = {3, 3, 3, 3, 3, 0};
        for (int kind = 0; kind < 6; kind++) {
            for (int wide = 1; wide <= 2; wide++) {
                int weight = wide == 1 ? one[kind] : two[kind];
                HandsAndWays x = new HandsAndWays();
                x.thing(kind, wide, 9);
                x.hand(0, side[kind] == 3 ? 8 : 1);
                String name = "weight: kind " + kind + " wide " + wide;
                if (weight > 1) {
                    x.strong(weight - 1);
                    due(name + " is too heavy", x.take(0, 0, side[kind]), -13);
                }
                x.strong(weight);
                due(name + " is just not too heavy", x.take(0, 0, side[kind]), 0);
            }
        }
    }

    /** Promise 9: "-5: HAND", WHY 1: "the HAND is not there .. PUT: it holds none". */
    private static void putIsRefused() {
        Check.span("put: hand", ActEdgesTest::bothHolding, (x, n) -> x.put(n), 0, 1, -5);
        refused("put: holds none", x -> x.put(0), -11);
        refused("put: not there", x -> x.put(1), -11);
        Check.refused("put: no longer", () -> {
            HandsAndWays x = holding();
            x.put(0);
            return x;
        }, x -> x.put(0), -11);
        HandsAndWays x = bothHolding();
        due("put: the other one's stays held", x.put(0), 0);
        due("put: by hand 1", x.thingTold(1, 2), 1);
        due("put: where it is", x.thingTold(0, 1), 28);
    }

    /** Promise 10: "-5: HAND, DOOR". */
    private static void openTakesNumbers() {
        Check.span("open: hand", () -> {
            HandsAndWays x = furnished();
            x.hand(0, 1);
            x.hand(1, 8);
            return x;
        }, (x, n) -> x.open(n, 1), 0, 1, -5);
        Check.span("open: door", () -> {
            HandsAndWays x = new HandsAndWays();
            for (int d = 0; d < 4; d++) x.door(2 * d, -1);
            x.hand(0, 1);
            return x;
        }, (x, n) -> x.open(0, n), 0, 3, -5);
        refused("open: a door that is not there yet", x -> x.open(0, 2), -5);
        refused("open: -5 ahead of WHY 1", x -> x.open(1, 2), -5);
        due("open: no door in the room", new HandsAndWays().open(0, 0), -5);
    }

    /** "WHY .. 5 there is no such DOOR, or it is OPEN; 7 .. the HAND isn't there; 6 it lacks the KEY (behind 7)". */
    private static void openTellsTheFirstWhy() {
        refused("open: not there, ahead of all", x -> x.open(1, 0), -11);
        refused("open: lacks the key", x -> x.open(0, 0), -16);
        Check.refused("open: another thing is not the key", ActEdgesTest::holding, x -> x.open(0, 0), -16);
        refused("open: not beside, no key needed", x -> x.open(0, 1), -17);
        Check.refused("open: not beside, ahead of the key", () -> {
            HandsAndWays x = furnished();
            x.hand(0, 9);
            return x;
        }, x -> x.open(0, 0), -17);
        HandsAndWays x = furnished();
        x.hand(0, 62);
        x.take(0, 3, 3);
        due("open: the key would be in the door", x.go(0, 18), -14);
        x.go(0, 20);
        due("open: with the key", x.open(0, 0), 0);
        due("open: is open, ahead of the key", x.open(0, 0), -15);
        x.put(0);
        due("open: is open, and it lacks the key", x.open(0, 0), -15);
        x.go(0, 0);
        due("open: is open, ahead of where the hand is", x.open(0, 0), -15);
        x.hand(0, 62);
        due("open: stays open", x.isOpen(0), 1);
    }

    /** "it holds the KEY, if the DOOR has one": if it has none, whatever the hand holds is fine. */
    private static void openWithoutAKey() {
        HandsAndWays x = holding();
        x.door(30, -1);
        x.put(0);
        x.hand(0, 29);
        x.take(0, 0, 1);
        due("open: holds something, no key is needed", x.open(0, 2), 0);
        HandsAndWays y = new HandsAndWays();
        y.door(9, -1);
        y.hand(0, 8);
        due("open: holds nothing, no key is needed", y.open(0, 0), 0);
        HandsAndWays z = new HandsAndWays();
        z.thing(3, 1, 1);
        z.thing(3, 1, 10);
        z.door(8, 0);
        z.door(16, 1);
        z.hand(0, 0);
        z.take(0, 0, 3);
        due("open: thing 0 is its key", z.open(0, 0), 0);
        z.go(0, 8);
        due("open: thing 0 is not the other's key", z.open(0, 1), -16);
        due("open: each door for itself", z.isOpen(0), 1);
        due("open: the other is shut", z.isOpen(1), 0);
    }

    /** "no other THING": whichever it holds, by either hand, it is not in its own way; it is HELD for the other one. */
    private static void whicheverIsHeld() {
        for (int t = 0; t < 8; t++) {
            for (int h = 0; h < 2; h++) {
                HandsAndWays x = new HandsAndWays();
                for (int k = 0; k < 8; k++) x.thing(3, 2, k == t ? 1 : 8 * (k == 0 ? t : k) + 6);
                x.hand(h, 0);
                String name = "held: thing " + t + " by hand " + h;
                due(name, x.take(h, t, 3), 0);
                x.hand(1 - h, 9);
                due(name + ", not by the other one", x.take(1 - h, t, 2), -11);
                due(name + ", over its own cells", x.go(h, 2), 2);
                due(name + ", where it lies", x.thingTold(t, 1), 3);
                due(name + ", told by its hand", x.handTold(h, 1), t);
                due(name + ", put", x.put(h), 0);
                due(name + ", its hand holds none", x.handTold(h, 1), -1);
                x.hand(1 - h, 11);
                due(name + ", now by the other one", x.take(1 - h, t, 2), 0);
            }
        }
    }

    /** "a THING that is HELD goes with the HAND", from each side, as far as the room's edges. */
    private static void whatIsHeldGoesAlong() {
        for (int wide = 1; wide <= 2; wide++) {
            for (int side = 0; side < 4; side++) carried(wide, side);
        }
    }

    private static void carried(int wide, int side) {
        int hand = side == 0 ? 19 : side == 1 ? 27 + wide : side == 2 ? 35 : 26;
        int left = side == 1 ? wide : 0, right = side == 3 ? wide : side == 1 ? 0 : wide - 1;
        int up = side == 2 ? 1 : 0, down = side == 0 ? 1 : 0;
        for (int k = 0; k < 64; k++) {
            HandsAndWays x = new HandsAndWays();
            x.thing(0, wide, 27);
            x.hand(1, hand);
            x.take(1, 0, side);
            boolean can = k % 8 >= left && k % 8 + right < 8 && k / 8 >= up && k / 8 + down < 8;
            int far = Math.abs(k % 8 - hand % 8) + Math.abs(k / 8 - hand / 8);
            String name = "carried: " + wide + " wide, side " + side + ", to " + k;
            due(name, x.go(1, k), can ? far : -14);
            due(name + ", where the thing is", x.thingTold(0, 1), can ? 27 + k - hand : 27);
            due(name + ", from which side", x.thingTold(0, 3), side);
        }
    }

    public static void main(String[] args) {
        goTakesHandsAndCells();
        goTellsHowFar();
        theLongestWay();
        takeTakesNumbers();
        takeTellsTheFirstWhy();
        takeByWeight();
        putIsRefused();
        openTakesNumbers();
        openTellsTheFirstWhy();
        openWithoutAKey();
        whicheverIsHeld();
        whatIsHeldGoesAlong();
        Check.end("ActEdgesTest");
    }
}
