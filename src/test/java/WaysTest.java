/** Promises 11 to 14: way, step, reached, barred. */
public final class WaysTest {
    private static void due(String what, long got, long want) { Check.due(what, got, want); }

    private static void refusals() {
        HandsAndWays x = new HandsAndWays();
        due("way: not there", x.way(0, 0), -5);
        due("step: not there", x.step(0, 0, 0), -5);
        due("reached: not there", x.reached(0, 0), -5);
        due("barred: not there", x.barred(0, 0), -5);
        x.hand(1, 0);
        x.hand(0, 9);
        int[] hands = {-1, 2}, cells = {-1, 64};
        for (int h : hands) {
            due("way: hand " + h, x.way(h, 0), -5);
            due("step: hand " + h, x.step(h, 0, 0), -5);
            due("reached: hand " + h, x.reached(h, 0), -5);
            due("reached: -5 ahead of BAD", x.reached(h, 9), -5);
            due("barred: hand " + h, x.barred(h, 0), -5);
        }
        for (int c : cells) {
            due("way: cell " + c, x.way(0, c), -5);
            due("step: cell " + c, x.step(0, c, 0), -5);
            due("barred: cell " + c, x.barred(0, c), -5);
        }
        due("reached: what", x.reached(0, 2), -2);
        due("reached: what below", x.reached(0, -1), -2);
    }

    /** Promise 11. */
    private static void wayIsTheShortest() {
        HandsAndWays x = Check.room(
            "........",
            ".######.",
            ".......#",
            "######.#",
            ".......#",
            "........",
            "........",
            "........");
        x.hand(0, 7);
        due("way: round the walls", x.way(0, 16), 9);
        due("way: to the end", x.way(0, 63), 21);
        due("way: its own cell", x.way(0, 7), 0);
        due("way: a wall", x.way(0, 9), -3);
        due("way: nothing changed", x.handTold(0, 0), 7);
        due("way: no steps", x.handTold(0, 2), 0);
        x.thing(0, 1, 16);
        due("way: a thing is there", x.way(0, 16), -3);
        due("way: a thing bars", x.way(0, 63), -3);
        x.hand(1, 4);
        due("way: the other hand bars", x.way(0, 8), -3);
        x.hand(1, 63);
        due("way: the other hand is there", x.way(1, 62), 1);
    }

    /** Promises 11 and 12 with a thing in hand. */
    private static void wayWithAThing() {
        HandsAndWays x = Check.room(
            ".....",
            ".#...",
            ".....");
        x.thing(0, 2, 3);
        x.hand(0, 2);
        x.take(0, 0, 3);
        due("way: both cells fit", x.way(0, 10), 1);
        due("way: at the row's end it doesn't", x.way(0, 11), -3);
        due("way: its own wide thing goes first", x.way(0, 0), 2);
        due("way: the wall is for the thing", x.way(0, 8), -3);
        due("way: two rows down", x.way(0, 16), 4);
        due("step: down ahead of west", x.step(0, 16, 1), 10);
        due("step: then down", x.step(0, 16, 2), 18);
        due("step: then west", x.step(0, 16, 3), 17);
    }

    /** Promise 12: told back from the end, by the sides in order. */
    private static void stepsAreToldBackFromTheEnd() {
        HandsAndWays x = new HandsAndWays();
        x.hand(0, 9);
        int[] north = {9, 10, 11, 19, 27};
        for (int i = 0; i < 5; i++) due("step: to the south-east " + i, x.step(0, 27, i), north[i]);
        x.hand(0, 27);
        int[] east = {27, 19, 11, 10, 9};
        for (int i = 0; i < 5; i++) due("step: to the north-west " + i, x.step(0, 9, i), east[i]);
        x.hand(0, 11);
        int[] back = {11, 10, 9, 17, 25};
        for (int i = 0; i < 5; i++) due("step: to the south-west " + i, x.step(0, 25, i), back[i]);
        x.hand(0, 25);
        int[] up = {25, 26, 27, 19, 11};
        for (int i = 0; i < 5; i++) due("step: to the north-east " + i, x.step(0, 11, i), up[i]);
        due("step: i below", x.step(0, 11, -1), -3);
        due("step: i behind", x.step(0, 11, 5), -3);
        due("step: own cell", x.step(0, 25, 0), 25);
        due("step: behind own cell", x.step(0, 25, 1), -3);
        x.wall(11, 1);
        due("step: no way", x.step(0, 11, 0), -3);
        due("step: nothing changed", x.handTold(0, 2), 0);
    }

    /** Promise 13. */
    private static void reachedCellsAndBars() {
        HandsAndWays x = Check.room(
            "......",
            "##.###",
            "......");
        x.hand(0, 0);
        due("reached: all", x.reached(0, 0), 13);
        due("reached: no bars", x.reached(0, 1), 0);
        x.thing(0, 1, 10);
        due("reached: with its own", x.reached(0, 0), 6);
        due("reached: a thing bars", x.reached(0, 1), 1);
        x.door(16, -1);
        due("reached: what it doesn't come to bars not", x.reached(0, 1), 1);
        x.hand(1, 4);
        due("reached: the other hand", x.reached(0, 1), 4097);
        due("reached: cells are less", x.reached(0, 0), 4);
        x.hand(1, 5);
        x.door(3, -1);
        x.door(3, -1);
        due("reached: all shut doors of a cell", x.reached(0, 1), 1 + 512 + 1024);
        due("reached: the other hand's", x.reached(1, 1), 512 + 1024);
        due("reached: the other hand's cells", x.reached(1, 0), 2);
        x.hand(1, 4);
        x.open(1, 1);
        due("reached: one is shut still", x.reached(0, 1), 1 + 1024);
        x.open(1, 2);
        due("reached: both are open", x.reached(0, 1), 1 + 4096);
    }

    /** Promise 13 with a thing in hand: what bars the thing bars too. */
    private static void barsOfWhatIsHeld() {
        HandsAndWays x = Check.room(
            "........",
            "........");
        x.thing(0, 2, 1);
        x.hand(0, 0);
        x.take(0, 0, 3);
        x.thing(0, 1, 12);
        x.hand(1, 6);
        due("bars: cells", x.reached(0, 0), 6);
        due("bars: a thing and the hand, ahead of the thing", x.reached(0, 1), 2 + 4096);
        HandsAndWays y = Check.room(
            "....",
            "....");
        y.thing(2, 1, 1);
        y.thing(0, 1, 3);
        y.hand(0, 0);
        y.take(0, 0, 3);
        y.thing(0, 1, 8);
        y.thing(0, 1, 9);
        due("bars: north and south don't count", y.reached(0, 1), 2);
        due("bars: just its row", y.reached(0, 0), 2);
    }

    /** Promise 13: its own thing isn't what bars, and only cells in the thing's row count. */
    private static void barsAtTheEdge() {
        HandsAndWays x = Check.room(
            ".......#",
            "......##",
            "........");
        x.thing(0, 1, 16);
        x.hand(0, 8);
        x.take(0, 0, 0);
        x.thing(3, 1, 23);
        due("edge: cells", x.reached(0, 0), 12);
        due("edge: own thing bars not", x.reached(0, 1), 0);
        HandsAndWays y = Check.room(
            "#......",
            "......#",
            ".......");
        y.thing(0, 1, 7 + 8 * 7);
        due("edge: a wall", y.cellTold(63), -10);
        y.thing(0, 2, 9);
        y.thing(0, 1, 8);
        y.hand(0, 11);
        y.take(0, 0, 1);
        due("edge: what lies beside the thing's row", y.reached(0, 1), 2);
    }

    /** Promise 14. */
    private static void barredByWhom() {
        HandsAndWays x = Check.room("........");
        x.hand(0, 0);
        x.thing(0, 1, 3);
        due("barred: it does, too", x.barred(0, 2), 0);
        due("barred: by one", x.barred(0, 7), 1);
        due("barred: it is there", x.barred(0, 3), 1);
        x.thing(0, 2, 5);
        due("barred: by two, none alone", x.barred(0, 7), 0);
        due("barred: by the first", x.barred(0, 4), 1);
        due("barred: a wall", x.barred(0, 8), 0);
        HandsAndWays y = Check.room(
            ".......",
            ".#####.",
            ".......");
        y.hand(0, 0);
        y.thing(0, 1, 3);
        due("barred: another way", y.barred(0, 6), 0);
        y.thing(0, 1, 19);
        due("barred: either of two", y.barred(0, 6), 3);
        y.hand(1, 4);
        y.take(1, 0, 1);
        due("barred: not one that is held", y.barred(0, 6), 2);
        y.put(1);
        due("barred: behind it the other hand", y.barred(0, 6), 2);
        HandsAndWays z = Check.room("........");
        z.hand(0, 0);
        z.thing(0, 1, 1);
        z.thing(0, 1, 4);
        z.take(0, 0, 3);
        due("barred: with what it holds", z.barred(0, 3), 2);
        due("barred: not its own", z.barred(0, 7), 0);
    }

    public static void main(String[] args) {
        refusals();
        wayIsTheShortest();
        wayWithAThing();
        stepsAreToldBackFromTheEnd();
        reachedCellsAndBars();
        barsOfWhatIsHeld();
        barsAtTheEdge();
        barredByWhom();
        Check.end("WaysTest");
    }
}
