/** The edges that the document names: of SHEETS (Terms, part 3), and of promises 37 to 41. */
public final class HostEdgesTest {
    private static void due(String what, long got, long want) { Check.due(what, got, want); }

    private static void refused(String what, Check.Call call, int want) {
        Check.refused(what, HostEdgesTest::furnished, call, want);
    }

    /** Sheet 0 of bytes, 1 of shorts, 2 of ints; 3 is missing. */
    private static HandsAndWays furnished() {
        HandsAndWays x = new HandsAndWays();
        x.thing(4, 2, 60);
        x.hand(0, 50);
        x.wall(51, 1);
        for (int s = 0; s < 3; s++) {
            x.sheet(s, s, 4);
            for (int i = 0; i < 4; i++) x.cell(s, i, 8 * s + i + 1);
        }
        return x;
    }

    /** Four sheets of ints, of 40 numbers each. */
    private static HandsAndWays fullSheets() {
        HandsAndWays x = new HandsAndWays();
        for (int s = 0; s < 4; s++) {
            x.sheet(s, 2, 40);
            x.cell(s, 0, s);
            x.cell(s, 39, 60 + s);
        }
        return x;
    }

    /** Which cells are walls, by their bits. */
    private static long walled(HandsAndWays x) {
        long cells = 0;
        for (int c = 0; c < 64; c++) if (x.cellTold(c) == -10) cells |= 1L << c;
        return cells;
    }

    /** What a sheet of so many numbers holds, by the walls that it leaves in an empty room; its numbers are cells. */
    private static long cells(HandsAndWays x, int s, int sort, int n) {
        for (int c = 0; c < 64; c++) x.wall(c, 0);
        due("sheet " + s + " is of " + n, x.walls(s, sort, 0, n), n);
        return walled(x);
    }

    private static long bits(int... cells) {
        long all = 0;
        for (int c : cells) all |= 1L << c;
        return all;
    }

    /** "NO": the constants are as the face tells. */
    private static void constants() {
        due("NONE", HandsAndWays.NONE, -1);
        due("BAD", HandsAndWays.BAD, -2);
        due("STATE", HandsAndWays.STATE, -3);
        due("FULL", HandsAndWays.FULL, -4);
        due("NO", HandsAndWays.NO, Long.MIN_VALUE / 2);
    }

    /** "SHEETS 0 .. 3 are .. missing (as all are at first)". */
    private static void allAreMissingAtFirst() {
        for (int s = 0; s < 4; s++) {
            HandsAndWays x = new HandsAndWays();
            due("first: cell of " + s, x.cell(s, 0, 0), -11);
            due("first: copy from " + s, x.copy(s, 0, s, 0, 0), -11);
            for (int sort = 0; sort < 3; sort++) due("first: walls by " + s, x.walls(s, sort, 0, 0), -11);
            due("first: made", x.sheet(s, 0, 0), 1);
            due("first: is there", x.copy(s, 0, s, 0, 0), 0);
            for (int other = 0; other < 4; other++) if (other != s) due("first: not " + other, x.cell(other, 0, 0), -11);
        }
    }

    /** Promise 37: "BAD: SHEET, sort, n above 40; -14" (below 0); "missing (sort -1: n does not matter)". */
    private static void sheetTakesNumbers() {
        Check.span("sheet: sheet", HostEdgesTest::furnished, (x, n) -> x.sheet(n, 2, 3), 0, 3, -2);
        Check.span("sheet: missing sheet", HostEdgesTest::furnished, (x, n) -> x.sheet(n, -1, 3), 0, 3, -2);
        Check.span("sheet: sort", HostEdgesTest::furnished, (x, n) -> x.sheet(0, n, 3), -1, 2, -2);
        for (int sort = 0; sort < 3; sort++) {
            int k = sort;
            Check.above("sheet: size of sort " + k, HostEdgesTest::furnished, (x, n) -> x.sheet(0, k, n), 40, -2);
            Check.below("sheet: size of sort " + k, HostEdgesTest::furnished, (x, n) -> x.sheet(0, k, n), 0, -14);
        }
        for (int n : new int[] {Integer.MIN_VALUE, -1, 0, 40, 41, Integer.MAX_VALUE}) {
            HandsAndWays x = furnished();
            due("sheet: missing, n " + n, x.sheet(1, -1, n), 1);
            due("sheet: it is missing, n " + n, x.cell(1, 0, 0), -11);
            due("sheet: missing again, n " + n, x.sheet(1, -1, n), 1);
        }
        refused("sheet: BAD of the sheet ahead of -14", x -> x.sheet(4, 0, -1), -2);
        refused("sheet: BAD of the sort ahead of -14", x -> x.sheet(0, 3, -1), -2);
        refused("sheet: BAD of the sheet, though it would be missing", x -> x.sheet(-1, -1, 0), -2);
    }

    /** "a row of n of a sort, all 0": from none to 40, also where there was one. */
    private static void sheetsAreAllZero() {
        for (int n = 0; n <= 40; n += 8) {
            HandsAndWays x = fullSheets();
            due("zero: made of " + n, x.sheet(1, n % 3, n), 1);
            due("zero: all of " + n, cells(x, 1, n % 3, n), n == 0 ? 0 : 1);
            due("zero: no more than " + n, x.cell(1, n, 5), -12);
            due("zero: sheet 0 stays", cells(x, 0, 2, 40), bits(0, 60));
            due("zero: sheet 2 stays", cells(x, 2, 2, 40), bits(0, 2, 62));
        }
        HandsAndWays x = fullSheets();
        x.sheet(3, -1, 0);
        x.sheet(3, 2, 40);
        due("zero: what it held is gone", cells(x, 3, 2, 40), bits(0));
        x.cell(3, 39, 9);
        x.sheet(3, 2, 1);
        x.sheet(3, 2, 40);
        due("zero: behind a shorter one, too", cells(x, 3, 2, 40), bits(0));
    }

    /** Promise 38: "BAD: SHEET; -11; -12". */
    private static void cellTakesNumbers() {
        Check.span("cell: sheet", HostEdgesTest::fullSheets, (x, n) -> x.cell(n, 0, 9), 0, 3, -2);
        for (int s = 0; s < 3; s++) {
            int k = s;
            Check.span("cell: place of sort " + k, HostEdgesTest::furnished, (x, n) -> x.cell(k, n, 9), 0, 3, -12);
            Check.span("cell: place of 40", HostEdgesTest::fullSheets, (x, n) -> x.cell(k, n, 9), 0, 39, -12);
        }
        refused("cell: missing", x -> x.cell(3, 0, 9), -11);
        refused("cell: -11 ahead of -12", x -> x.cell(3, 40, 9), -11);
        refused("cell: BAD ahead of -11", x -> x.cell(4, 0, 9), -2);
        Check.refused("cell: of a row of none", () -> {
            HandsAndWays x = furnished();
            x.sheet(0, 2, 0);
            return x;
        }, x -> x.cell(0, 0, 9), -12);
    }

    /** "(of bytes, shorts its lowest 8, 16 bits)": what is a cell, by each sort. */
    private static void numbersWrapAround() {
        int[] values = {0, 63, 64, -1, 127, 128, 255, 256, 256 + 63, 256 + 64, -256, -256 + 63, -193, -192, 32767, 32768, 65535,
            65536, 65536 + 63, 65536 + 64, 65536 + 256, -65536, -65536 + 63, 1 << 24, (1 << 24) + 63, Integer.MAX_VALUE,
            Integer.MAX_VALUE - 255, Integer.MIN_VALUE, Integer.MIN_VALUE + 63, 0x7fff0000, 0x12345600 + 9, 0x12340000 + 9};
        for (int v : values) {
            for (int sort = 0; sort < 3; sort++) {
                int kept = sort == 0 ? v & 255 : sort == 1 ? v & 65535 : v;
                HandsAndWays x = new HandsAndWays();
                x.sheet(0, sort, 3);
                x.cell(0, 0, 5);
                x.cell(0, 2, 6);
                due("wrap: taken", x.cell(0, 1, v), 1);
                boolean isCell = kept >= 0 && kept < 64;
                String name = "wrap: " + v + " of sort " + sort;
                due(name, x.walls(0, sort, 1, 1), isCell ? 1 : 0);
                due(name + ", which cell", walled(x), isCell ? bits(kept) : 0);
                due(name + ", its neighbours", cells(x, 0, sort, isCell ? 3 : 1), isCell ? bits(5, kept, 6) : bits(5));
            }
        }
    }

    /** Promise 39: "BAD: SHEETS; -11; -13: unlike sorts; -12 (n below 0, too)". */
    private static void copyTakesNumbers() {
        Check.Maker full = HostEdgesTest::fullSheets;
        Check.span("copy: from", full, (x, n) -> x.copy(n, 0, 1, 0, 1), 0, 3, -2);
        Check.span("copy: to", full, (x, n) -> x.copy(1, 0, n, 0, 1), 0, 3, -2);
        for (int n = 0; n <= 40; n += 20) {
            int k = n;
            Check.span("copy: place of " + k, full, (x, i) -> x.copy(0, i, 1, 0, k), 0, 40 - k, -12);
            Check.span("copy: other place of " + k, full, (x, j) -> x.copy(0, 0, 1, j, k), 0, 40 - k, -12);
        }
        Check.span("copy: how many", full, (x, n) -> x.copy(0, 0, 1, 0, n), 0, 40, -12);
        Check.span("copy: how many from 39", full, (x, n) -> x.copy(0, 39, 1, 0, n), 0, 1, -12);
        Check.span("copy: how many to 39", full, (x, n) -> x.copy(0, 0, 1, 39, n), 0, 1, -12);
        Check.span("copy: how many from 40", full, (x, n) -> x.copy(0, 40, 1, 0, n), 0, 0, -12);
        Check.refused("copy: i and n wrap around", full, x -> x.copy(0, Integer.MAX_VALUE, 1, 0, Integer.MAX_VALUE), -12);
        Check.refused("copy: j and n wrap around", full, x -> x.copy(0, 0, 1, 2, Integer.MAX_VALUE), -12);
        Check.refused("copy: i below and n above", full, x -> x.copy(0, -5, 1, 0, 10), -12);
        Check.refused("copy: j below and n above", full, x -> x.copy(0, 0, 1, -5, 10), -12);
        Check.refused("copy: i of none above", full, x -> x.copy(0, 41, 1, 0, 0), -12);
        Check.refused("copy: j of none below", full, x -> x.copy(0, 0, 1, -1, 0), -12);
    }

    private static void copyRefusesInOrder() {
        refused("copy: from one that is missing", x -> x.copy(3, 0, 0, 0, 1), -11);
        refused("copy: to one that is missing", x -> x.copy(0, 0, 3, 0, 1), -11);
        refused("copy: BAD ahead of -11", x -> x.copy(3, 0, 4, 0, 1), -2);
        refused("copy: BAD of the first ahead of -11", x -> x.copy(-1, 0, 3, 0, 1), -2);
        refused("copy: -11 ahead of -12", x -> x.copy(3, 99, 0, 0, 1), -11);
        refused("copy: -11 of the other ahead of -12", x -> x.copy(0, 99, 3, 0, 1), -11);
        for (int s = 0; s < 3; s++) {
            for (int other = 0; other < 3; other++) {
                int a = s, b = other;
                if (a == b) due("copy: its own " + a, furnished().copy(a, 0, b, 1, 3), 3);
                else refused("copy: unlike " + a + " " + b, x -> x.copy(a, 0, b, 0, 1), -13);
                if (a != b) refused("copy: -13 ahead of -12, " + a + " " + b, x -> x.copy(a, 0, b, 0, -1), -13);
            }
        }
        refused("copy: unlike, of none", x -> x.copy(0, 0, 1, 0, 0), -13);
    }

    /** "come to another one's (or its own) place j (as they were)": to and fro in its own row. */
    private static void copiesAreAsTheyWere() {
        for (int sort = 0; sort < 3; sort++) {
            for (int i = 0; i < 5; i++) {
                for (int j = 0; j < 5; j++) copiesWithin(sort, i, j);
            }
        }
        HandsAndWays x = fullSheets();
        due("copy: all 40", x.copy(3, 0, 2, 0, 40), 40);
        due("copy: the other's", cells(x, 2, 2, 40), bits(3, 0, 63));
        due("copy: its own stays", cells(x, 3, 2, 40), bits(3, 0, 63));
        due("copy: none at the end", x.copy(0, 40, 2, 40, 0), 0);
        due("copy: none changes nothing", cells(x, 2, 2, 40), bits(3, 0, 63));
        due("copy: the next one stays", cells(x, 1, 2, 40), bits(1, 0, 61));
    }

    private static void copiesWithin(int sort, int i, int j) {
        int n = 5 - Math.max(i, j);
        int[] row = {11, 22, 33, 44, 55}, then = row.clone();
        for (int k = 0; k < n; k++) then[j + k] = row[i + k];
        HandsAndWays x = new HandsAndWays();
        x.sheet(0, sort, 5);
        for (int k = 0; k < 5; k++) x.cell(0, k, row[k]);
        due("copy: within", x.copy(0, i, 0, j, n), n);
        for (int k = 0; k < 5; k++) {
            x.walls(0, sort, k, 1);
            due("copy: from " + i + " to " + j + ", number " + k, x.wall(then[k], 0), 1);
        }
    }

    /** Promise 40: "n CELLS (0 .. 40)"; "BAD: SHEET, sort, n; -11; -13; -12". */
    private static void wallsTakesNumbers() {
        Check.span("walls: sheet", HostEdgesTest::fullSheets, (x, n) -> x.walls(n, 2, 0, 1), 0, 3, -2);
        Check.span("walls: n", HostEdgesTest::fullSheets, (x, n) -> x.walls(0, 2, 0, n), 0, 40, -2);
        Check.span("walls: from", HostEdgesTest::fullSheets, (x, n) -> x.walls(0, 2, n, 1), 0, 39, -12);
        refused("walls: sort below", x -> x.walls(0, -1, 0, 1), -2);
        refused("walls: sort above", x -> x.walls(0, 3, 0, 1), -2);
        refused("walls: BAD of the sort of one that is missing", x -> x.walls(3, -1, 0, 1), -2);
        refused("walls: BAD ahead of -11", x -> x.walls(3, 0, 0, 41), -2);
        refused("walls: BAD ahead of -13", x -> x.walls(0, 1, 0, -1), -2);
        refused("walls: missing", x -> x.walls(3, 0, 0, 1), -11);
        refused("walls: -11 ahead of -12", x -> x.walls(3, 0, 99, 1), -11);
        for (int s = 0; s < 3; s++) {
            for (int sort = 0; sort < 3; sort++) {
                int a = s, b = sort;
                if (a == b) due("walls: sort " + a, furnished().walls(a, b, 0, 4), 4);
                else refused("walls: another sort, " + a + " " + b, x -> x.walls(a, b, 0, 1), -13);
                if (a != b) refused("walls: -13 ahead of -12, " + a + " " + b, x -> x.walls(a, b, 4, 1), -13);
            }
        }
        refused("walls: none", x -> x.walls(0, 0, 0, 0), 0);
        refused("walls: none from the end", x -> x.walls(0, 0, 4, 0), 0);
    }

    /** "how many could be (or were)"; "-12: what stood ahead is done". */
    private static void wallsThatCouldBe() {
        HandsAndWays x = furnished();
        x.door(20, -1);
        Check.sheet(x, 3, 51, 60, 61, 50, 64, -1, 20, 7, 7, 0, 63);
        due("walls: a wall that was", x.walls(3, 2, 0, 1), 1);
        due("walls: a thing, its last cell, a hand", x.walls(3, 2, 1, 3), 0);
        due("walls: no cells", x.walls(3, 2, 4, 2), 0);
        due("walls: a door", x.walls(3, 2, 6, 1), 1);
        due("walls: twice, first cell, last cell", x.walls(3, 2, 7, 4), 4);
        due("walls: those", walled(x), bits(51, 20, 7, 0, 63));
        due("walls: all of them", x.walls(3, 2, 0, 11), 6);
        HandsAndWays y = furnished();
        due("walls: one behind the end", y.walls(0, 0, 2, 3), -12);
        due("walls: what stood ahead", walled(y), bits(51, 3, 4));
        due("walls: from the end", y.walls(0, 0, 4, 1), -12);
        due("walls: far behind the end", y.walls(0, 0, Integer.MAX_VALUE, 40), -12);
        due("walls: ahead of the first", y.walls(0, 0, -1, 3), -12);
        due("walls: far ahead of the first", y.walls(0, 0, Integer.MIN_VALUE, 40), -12);
        due("walls: the first ones are not done", walled(y), bits(51, 3, 4));
        HandsAndWays z = new HandsAndWays();
        z.sheet(0, 0, 40);
        for (int i = 0; i < 40; i++) z.cell(0, i, 63 - i);
        due("walls: 40", z.walls(0, 0, 0, 40), 40);
        due("walls: all 40", walled(z), -1L << 24);
    }

    /** Promise 41: "BAD: KIND; -12: no such CELL; -11: neither is there; -13". */
    private static void takenTakesNumbers() {
        Check.span("taken: cell", HandsAndWays::new, (x, n) -> x.taken(n, 0), 0, 63, -12);
        Check.span("taken: kind", HostEdgesTest::furnished, (x, n) -> x.taken(0, n), 0, 5, -2);
        refused("taken: BAD ahead of -12", x -> x.taken(64, 6), -2);
        refused("taken: a hand is neither", x -> x.taken(50, 0), -11);
        refused("taken: nothing", x -> x.taken(52, 0), -11);
        for (int kind = 0; kind < 6; kind++) {
            int k = kind;
            refused("taken: a wall for kind " + k, x -> x.taken(51, k), -13);
            HandsAndWays x = new HandsAndWays();
            x.door(9, -1);
            x.hand(0, 8);
            due("taken: a shut door for kind " + k, x.taken(9, k), -13);
            x.open(0, 0);
            due("taken: an open door for kind " + k, x.taken(9, k), -11);
        }
    }

    /** "taken for a THING of a KIND (also of one that is one)". */
    private static void whichIsWhich() {
        int[] isOne = {1, 1 + 2, 1 + 4, 1 + 8, 1 + 2 + 16, 1 + 4 + 32};
        for (int kind = 0; kind < 6; kind++) {
            HandsAndWays x = new HandsAndWays();
            x.strong(99);
            x.thing(0, 1, 0);
            x.thing(kind, 2, 20);
            for (int k = 0; k < 6; k++) {
                int want = (isOne[kind] >> k & 1) != 0 ? 1 : -13;
                due("which: " + kind + " for " + k, x.taken(20, k), want);
                due("which: its last cell, " + kind + " for " + k, x.taken(21, k), want);
                due("which: behind it", x.taken(22, k), -11);
            }
            x.hand(1, kind == 2 || kind == 5 ? 12 : 22);
            x.take(1, 1, kind == 2 || kind == 5 ? 0 : 1);
            due("which: is held, " + kind, x.thingTold(1, 2), 1);
            due("which: held, " + kind, x.taken(21, kind), 1);
        }
        HandsAndWays y = new HandsAndWays();
        for (int t = 0; t < 8; t++) y.thing(0, 1, 63 - t);
        for (int t = 0; t < 8; t++) due("which: thing " + t, y.taken(63 - t, 0), t);
    }

    /** "the least THING, else a WALL or SHUT DOOR": a thing ahead of a wall that was built there since an image. */
    private static void aThingAheadOfAWall() {
        HandsAndWays x = new HandsAndWays();
        x.thing(3, 1, 9);
        x.hand(0, 8);
        x.image();
        x.take(0, 0, 3);
        x.go(0, 40);
        x.wall(9, 1);
        due("ahead: a wall alone", x.taken(9, 0), -13);
        x.back();
        due("ahead: told as a wall", x.cellTold(9), -10);
        due("ahead: taken for a thing", x.taken(9, 0), 0);
        due("ahead: taken for a key", x.taken(9, 3), 0);
        due("ahead: taken for no box", x.taken(9, 1), -13);
    }

    public static void main(String[] args) {
        constants();
        allAreMissingAtFirst();
        sheetTakesNumbers();
        sheetsAreAllZero();
        cellTakesNumbers();
        numbersWrapAround();
        copyTakesNumbers();
        copyRefusesInOrder();
        copiesAreAsTheyWere();
        wallsTakesNumbers();
        wallsThatCouldBe();
        takenTakesNumbers();
        whichIsWhich();
        aThingAheadOfAWall();
        Check.end("HostEdgesTest");
    }
}
