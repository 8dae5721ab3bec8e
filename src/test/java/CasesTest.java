/** Promises 32 to 36: maybe, sure, cases; image, back. */
public final class CasesTest {
    private static void due(String what, long got, long want) { Check.due(what, got, want); }

    /** Promises 32 and 33. */
    private static void casesAreOfOneThing() {
        HandsAndWays x = new HandsAndWays();
        due("maybe: no such thing", x.maybe(0, 0, 1), -1);
        x.thing(0, 1, 9);
        x.thing(0, 1, 18);
        due("maybe: below", x.maybe(-1, 0, 1), -1);
        due("maybe: no such cell", x.maybe(0, 64, 1), -1);
        due("maybe: cell below", x.maybe(0, -1, 1), -1);
        due("maybe: NONE ahead of BAD", x.maybe(0, 64, 0), -1);
        due("maybe: share 0", x.maybe(0, 0, 0), -2);
        due("maybe: share 100", x.maybe(0, 0, 100), -2);
        for (int i = 0; i < 6; i++) due("maybe: " + i, x.maybe(0, 63, 99), i);
        due("maybe: BAD ahead of STATE", x.maybe(1, 0, 0), -2);
        due("maybe: STATE ahead of FULL", x.maybe(1, 0, 1), -3);
        due("maybe: FULL", x.maybe(0, 0, 1), -4);
        due("maybe: counted", x.count(6), 6);
        due("sure: 6", x.sure(), 6);
        due("sure: none", x.sure(), 0);
        due("sure: counted", x.count(6), 0);
        due("maybe: another thing now", x.maybe(1, 0, 1), 0);
        due("maybe: the first is another one's", x.maybe(0, 0, 1), -3);
        due("maybe: lies where it lay", x.thingTold(1, 1), 18);
    }

    private static void told(String when, HandsAndWays x, int h, int p, int bits, int above, int below, int most) {
        due(when + ": bits", x.cases(h, p, 0), bits);
        due(when + ": above", x.cases(h, p, 1), above);
        due(when + ": below", x.cases(h, p, 2), below);
        due(when + ": most", x.cases(h, p, 3), most);
    }

    /** Promise 34. */
    private static void programsInAllCases() {
        HandsAndWays x = new HandsAndWays();
        x.thing(0, 1, 18);
        x.thing(0, 1, 27);
        x.hand(0, 0);
        x.go(0, 8);
        x.go(0, 0);
        int takes = Check.program(x, "g17;t0w;"), goes = Check.program(x, "g20;"), waits = Check.program(x, "w1;");
        told("no cases", x, 0, takes, 0, 0, 1, 0);
        x.maybe(0, 18, 10);
        told("where it lies", x, 0, takes, 1, 1, 1, 3);
        x.maybe(0, 12, 20);
        told("elsewhere", x, 0, takes, 1, 1, 3, 3);
        told("on the way, or not", x, 0, goes, 3, 1, 1, 6);
        x.maybe(0, 27, 30);
        told("where another lies", x, 0, takes, 1, 1, 6, 3);
        told("where another lies, it fails whatever comes", x, 0, waits, 3, 1, 2, 0);
        x.maybe(0, 0, 5);
        told("where a hand is", x, 0, waits, 3, 6, 13, 0);
        x.maybe(0, 20, 7);
        told("at the end", x, 0, goes, 3, 5, 12, 6);
        x.maybe(0, 1, 3);
        told("where it makes the way longer", x, 0, goes, 35, 11, 25, 6);
        due("cases: nothing moved", x.thingTold(0, 1), 18);
        due("cases: no steps", x.handTold(0, 2), 2);
        due("cases: the hand is there", x.handTold(0, 0), 0);
        due("cases: no such hand", x.cases(2, 0, 0), -5);
        due("cases: hand below", x.cases(-1, 0, 0), -5);
        due("cases: no such program", x.cases(0, 3, 0), -5);
        due("cases: program below", x.cases(0, -1, 0), -5);
        due("cases: -5 ahead of BAD", x.cases(0, 3, 9), -5);
        due("cases: what", x.cases(0, 0, 4), -2);
        due("cases: what below", x.cases(0, 0, -1), -2);
        told("a hand that isn't there waits", x, 1, waits, 51, 8, 15, 0);
        told("a hand that isn't there goes not", x, 1, goes, 0, 0, 1, 0);
    }

    /** Promise 34: what can't lie there, what is held, and the longest of several ways. */
    private static void casesThatFail() {
        HandsAndWays x = new HandsAndWays();
        x.thing(0, 2, 18);
        x.hand(0, 0);
        x.hand(1, 5);
        x.wall(40, 1);
        x.door(42, -1);
        int waits = Check.program(x, "w1;"), goes = Check.program(x, "g7;p;");
        int[] cells = {7, 39, 41, 4, 19, 63};
        for (int c : cells) x.maybe(0, c, 2);
        told("beyond its row, a door, a hand", x, 0, waits, 16, 1, 6, 0);
        told("it fails", x, 0, goes, 0, 0, 1, 0);
        x.sure();
        x.maybe(0, 1, 4);
        x.maybe(0, 18, 4);
        x.maybe(0, 8, 4);
        x.hand(1, 17);
        int far = Check.program(x, "g3;");
        told("the longest way", x, 0, far, 7, 1, 1, 5);
        x.take(1, 0, 3);
        told("it is held", x, 0, waits, 0, 0, 1, 0);
        x.put(1);
        told("it is put", x, 0, waits, 7, 1, 1, 0);
    }

    /** Promises 35 and 36. */
    private static void imagesAreKept() {
        HandsAndWays x = new HandsAndWays();
        due("back: no image", x.back(), -3);
        x.thing(3, 1, 1);
        x.door(20, 0);
        x.door(48, -1);
        x.hand(0, 0);
        x.hand(1, 40);
        x.go(0, 8);
        x.go(0, 0);
        Check.program(x, "w9;g63;");
        x.start(1, 0);
        x.run(4);
        x.take(0, 0, 3);
        due("image: tick", x.image(), 4);
        x.open(1, 1);
        x.go(0, 11);
        x.open(0, 0);
        x.put(0);
        x.go(0, 59);
        x.run(6);
        x.start(0, 0);
        x.thing(0, 2, 30);
        x.door(33, -1);
        x.hand(0, 41);
        x.open(0, 2);
        x.wall(15, 1);
        x.strong(3);
        x.maybe(0, 1, 1);
        Check.program(x, "p;");
        Check.feed(x, "w");
        Check.sheet(x, 0, 5);
        due("back: tick", x.back(), 4);
        int[] zero = {0, 0, 2, -1, 0, 0}, one = {40, -1, 0, 0, 0, 0}, counts = {4, 2, 3, 2, 1, 3, 1, 0};
        for (int i = 0; i < 6; i++) {
            due("back: hand 0 " + i, x.handTold(0, i), zero[i]);
            due("back: hand 1 " + i, x.handTold(1, i), one[i]);
        }
        for (int i = 0; i < 8; i++) due("back: count " + i, x.count(i), counts[i]);
        due("back: the thing", x.thingTold(0, 1), 1);
        due("back: is held", x.thingTold(0, 2), 0);
        due("back: from the west", x.thingTold(0, 3), 3);
        for (int d = 0; d < 3; d++) due("back: shut " + d, x.isOpen(d), 0);
        due("back: came since", x.thingTold(1, 1), -1);
        due("back: is a thing still", x.thingTold(1, 6), 2);
        due("back: nothing lies there", x.cellTold(30), -1);
        due("back: walls stay", x.cellTold(15), -10);
        due("back: sheets stay", x.cell(0, 0, 1), 1);
        x.run(5);
        due("back: waits on", x.handTold(1, 4), 1);
        due("back: again", x.back(), 4);
        due("back: waits again", x.handTold(1, 4), 0);
    }

    /** Promise 36: what is open then, who is blocked then, and what lies nowhere. */
    private static void backToWhatWas() {
        HandsAndWays x = new HandsAndWays();
        x.door(1, -1);
        x.hand(0, 0);
        x.open(0, 0);
        Check.program(x, "t0n;");
        x.start(0, 0);
        x.run(3);
        x.image();
        x.thing(0, 1, 8);
        x.thing(0, 1, 40);
        x.hand(1, 9);
        x.take(1, 0, 1);
        x.run(1);
        x.back();
        due("was: open", x.isOpen(0), 1);
        due("was: blocked", x.handTold(0, 5), 3);
        due("was: hand 1 not there", x.handTold(1, 0), -1);
        due("was: it holds none", x.handTold(1, 1), -1);
        due("was: the thing lies nowhere", x.thingTold(0, 1), -1);
        due("was: it isn't held", x.thingTold(0, 2), -1);
        due("was: from no side", x.thingTold(0, 3), -1);
        due("was: it can't be taken", x.take(0, 0, 2), -11);
        due("was: it bars nothing", x.way(0, 8), 1);
        due("was: it is taken for nothing", x.taken(8, 0), -11);
        due("was: its number stays", x.thing(0, 1, 8), 2);
        due("was: it may lie", x.maybe(0, 60, 5), 0);
        x.hand(0, 52);
        Check.program(x, "t0n;");
        due("was: in a case", x.cases(0, 1, 0), 1);
        x.image();
        due("was: another image", x.back(), 3);
        due("was: is of now", x.handTold(0, 0), 52);
    }

    public static void main(String[] args) {
        casesAreOfOneThing();
        programsInAllCases();
        casesThatFail();
        imagesAreKept();
        backToWhatWas();
        Check.end("CasesTest");
    }
}
