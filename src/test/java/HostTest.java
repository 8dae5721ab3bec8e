/** Promises 37 to 41: sheet, cell, copy, walls, taken; and the constants. */
public final class HostTest {
    private static void due(String what, long got, long want) { Check.due(what, got, want); }

    private static void constants() {
        due("NONE", HandsAndWays.NONE, -1);
        due("BAD", HandsAndWays.BAD, -2);
        due("STATE", HandsAndWays.STATE, -3);
        due("FULL", HandsAndWays.FULL, -4);
        due("NO", HandsAndWays.NO, -(1L << 62));
    }

    /** Promise 37. */
    private static void sheetsAreMade() {
        HandsAndWays x = new HandsAndWays();
        due("sheet: no such sheet", x.sheet(4, 0, 1), -2);
        due("sheet: below", x.sheet(-1, 0, 1), -2);
        due("sheet: sort", x.sheet(0, 3, 1), -2);
        due("sheet: sort below", x.sheet(0, -2, 1), -2);
        due("sheet: 41", x.sheet(0, 0, 41), -2);
        due("sheet: -1", x.sheet(0, 0, -1), -14);
        due("sheet: BAD ahead of -14", x.sheet(0, 3, -1), -2);
        due("sheet: missing still", x.cell(0, 0, 0), -11);
        due("sheet: 40", x.sheet(3, 2, 40), 1);
        due("sheet: its last", x.cell(3, 39, 9), 1);
        due("sheet: behind it", x.cell(3, 40, 9), -12);
        due("sheet: of none", x.sheet(3, 2, 0), 1);
        due("sheet: has no first", x.cell(3, 0, 9), -12);
        due("sheet: missing, whatever n is", x.sheet(3, -1, 99), 1);
        due("sheet: is missing", x.cell(3, 0, 9), -11);
        x.sheet(0, 2, 3);
        x.cell(0, 0, 5);
        x.cell(0, 2, 6);
        x.sheet(0, 2, 3);
        due("sheet: all 0 again", x.walls(0, 2, 0, 3), 3);
        due("sheet: one wall", x.cellTold(0), -10);
        due("sheet: not the old ones", x.cellTold(5), -1);
        due("sheet: nor the last", x.cellTold(6), -1);
    }

    /** Promise 38. */
    private static void numbersAreKeptBySort() {
        HandsAndWays x = new HandsAndWays();
        due("cell: no such sheet", x.cell(4, 0, 0), -2);
        due("cell: below", x.cell(-1, 0, 0), -2);
        due("cell: missing", x.cell(0, 0, 0), -11);
        for (int sort = 0; sort < 3; sort++) {
            x.sheet(sort, sort, 2);
            due("cell: place below", x.cell(sort, -1, 0), -12);
            due("cell: place behind", x.cell(sort, 2, 0), -12);
            due("cell: 256 + 10", x.cell(sort, 0, 266 + sort), 1);
            due("cell: 65536 + 20", x.cell(sort, 1, 65556 + sort), 1);
            due("cell: walls of sort " + sort, x.walls(sort, sort, 0, 2), 2 - sort);
        }
        due("cell: lowest 8 bits", x.cellTold(10), -10);
        due("cell: lowest 8 of more", x.cellTold(20), -10);
        due("cell: 16 bits are more", x.cellTold(11), -1);
        due("cell: lowest 16 bits", x.cellTold(21), -10);
        due("cell: all of an int", x.cellTold(22), -1);
        x.cell(0, 0, 255);
        due("cell: a byte below 0", x.walls(0, 0, 0, 1), 0);
    }

    private static HandsAndWays rows() {
        HandsAndWays x = new HandsAndWays();
        Check.sheet(x, 0, 1, 2, 3, 4);
        Check.sheet(x, 1, 11, 12);
        x.sheet(2, 0, 4);
        return x;
    }

    private static void builds(String what, HandsAndWays x, int s, int n, int... cells) {
        x.walls(s, 2, 0, n);
        for (int c = 0; c < 64; c++) {
            boolean is = false;
            for (int k : cells) is = is || k == c;
            due(what + ": cell " + c, x.cellTold(c), is ? -10 : -1);
        }
    }

    /** Promise 39. */
    private static void numbersAreCopied() {
        HandsAndWays x = rows();
        due("copy: no such sheet", x.copy(4, 0, 0, 0, 1), -2);
        due("copy: no such other", x.copy(0, 0, -1, 0, 1), -2);
        due("copy: missing", x.copy(3, 0, 0, 0, 1), -11);
        due("copy: other missing", x.copy(0, 0, 3, 0, 1), -11);
        due("copy: BAD ahead of -11", x.copy(3, 0, 4, 0, 1), -2);
        due("copy: unlike", x.copy(0, 0, 2, 0, 1), -13);
        due("copy: -13 ahead of -12", x.copy(0, 9, 2, 0, 1), -13);
        due("copy: i below", x.copy(0, -1, 1, 0, 1), -12);
        due("copy: j below", x.copy(0, 0, 1, -1, 1), -12);
        due("copy: n below", x.copy(0, 0, 1, 0, -1), -12);
        due("copy: behind", x.copy(0, 3, 1, 0, 2), -12);
        due("copy: behind the other's", x.copy(0, 0, 1, 1, 2), -12);
        due("copy: i far behind", x.copy(0, Integer.MAX_VALUE, 1, 0, 1), -12);
        due("copy: n is too great", x.copy(0, 1, 1, 1, Integer.MAX_VALUE), -12);
        due("copy: none at the end", x.copy(0, 4, 1, 2, 0), 0);
        due("copy: none behind the end", x.copy(0, 5, 1, 2, 0), -12);
        due("copy: none behind the other's", x.copy(0, 4, 1, 3, 0), -12);
        builds("copy: nothing yet", x, 0, 4, 1, 2, 3, 4);
        HandsAndWays y = rows();
        due("copy: two", y.copy(0, 1, 1, 0, 2), 2);
        builds("copy: two", y, 1, 2, 2, 3);
        HandsAndWays z = rows();
        due("copy: up in its own", z.copy(0, 0, 0, 1, 3), 3);
        builds("copy: up", z, 0, 4, 1, 2, 3);
        HandsAndWays v = rows();
        due("copy: down in its own", v.copy(0, 1, 0, 0, 3), 3);
        builds("copy: down", v, 0, 4, 2, 3, 4);
    }

    /** Promise 40. */
    private static void wallsBySheet() {
        HandsAndWays x = new HandsAndWays();
        Check.sheet(x, 0, 5, 64, 6, -1, 7, 6, 9);
        due("walls: no such sheet", x.walls(4, 2, 0, 1), -2);
        due("walls: below", x.walls(-1, 2, 0, 1), -2);
        due("walls: sort", x.walls(0, 3, 0, 1), -2);
        due("walls: sort below", x.walls(0, -1, 0, 1), -2);
        due("walls: n below", x.walls(0, 2, 0, -1), -2);
        due("walls: 41", x.walls(0, 2, 0, 41), -2);
        due("walls: BAD ahead of -11", x.walls(1, 2, 0, 41), -2);
        due("walls: missing", x.walls(1, 2, 0, 1), -11);
        due("walls: -11 of a missing one of no sort", x.walls(1, 0, 0, 0), -11);
        due("walls: another sort", x.walls(0, 1, 0, 1), -13);
        due("walls: -13 ahead of -12", x.walls(0, 1, -1, 1), -13);
        due("walls: none", x.walls(0, 2, 0, 0), 0);
        due("walls: from below", x.walls(0, 2, -1, 2), -12);
        due("walls: far below", x.walls(0, 2, Integer.MIN_VALUE, 2), -12);
        due("walls: far behind", x.walls(0, 2, Integer.MAX_VALUE, 2), -12);
        due("walls: nothing is done", x.cellTold(5), -1);
        x.hand(0, 7);
        x.thing(0, 1, 9);
        x.wall(5, 1);
        due("walls: was one, no cells, twice, a hand", x.walls(0, 2, 0, 6), 3);
        due("walls: stands", x.cellTold(6), -10);
        due("walls: not the hand", x.cellTold(7), 100);
        x.wall(6, 0);
        x.wall(5, 0);
        due("walls: what stood ahead is done", x.walls(0, 2, 2, 6), -12);
        due("walls: it is", x.cellTold(6), -10);
        due("walls: not what stood before", x.cellTold(5), -1);
        due("walls: not the thing", x.walls(0, 2, 6, 1), 0);
        x.sheet(1, 1, 40);
        due("walls: 40", x.walls(1, 1, 0, 40), 40);
        due("walls: 40 from 1", x.walls(1, 1, 1, 40), -12);
        due("walls: the last", x.walls(1, 1, 39, 1), 1);
    }

    /** Promise 41. */
    private static void takenForAKind() {
        HandsAndWays x = new HandsAndWays();
        int[][] is = {{0}, {0, 1}, {0, 2}, {0, 3}, {0, 1, 4}, {0, 2, 5}};
        for (int k = 0; k < 6; k++) x.thing(k, 1, 8 * k);
        for (int t = 0; t < 6; t++) {
            for (int k = 0; k < 6; k++) {
                boolean one = false;
                for (int known : is[t]) one = one || known == k;
                due("taken: " + t + " for " + k, x.taken(8 * t, k), one ? t : -13);
            }
        }
        x.thing(0, 2, 62);
        x.wall(1, 1);
        x.door(2, -1);
        x.hand(0, 3);
        due("taken: its last cell", x.taken(63, 0), 6);
        due("taken: a wall", x.taken(1, 0), -13);
        due("taken: a shut door", x.taken(2, 0), -13);
        due("taken: a hand", x.taken(3, 0), -11);
        due("taken: nothing", x.taken(4, 0), -11);
        x.open(0, 0);
        due("taken: an open door", x.taken(2, 0), -11);
        due("taken: kind", x.taken(0, 6), -2);
        due("taken: kind below", x.taken(0, -1), -2);
        due("taken: BAD ahead of -12", x.taken(64, 6), -2);
        due("taken: no such cell", x.taken(64, 0), -12);
        due("taken: cell below", x.taken(-1, 0), -12);
        x.image();
        x.hand(0, 7);
        x.take(0, 0, 0);
        x.hand(0, 55);
        x.take(0, 6, 0);
        x.hand(0, 54);
        x.take(0, 6, 0);
        x.go(0, 46);
        x.wall(62, 1);
        x.back();
        due("taken: a thing ahead of a wall", x.taken(62, 0), 6);
    }

    public static void main(String[] args) {
        constants();
        sheetsAreMade();
        numbersAreKeptBySort();
        numbersAreCopied();
        wallsBySheet();
        takenForAKind();
        Check.end("HostTest");
    }
}
