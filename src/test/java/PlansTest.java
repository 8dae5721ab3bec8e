/** Promises 29 to 31: plan, planned, learnt. */
public final class PlansTest {
    private static void due(String what, long got, long want) { Check.due(what, got, want); }

    private static void learnt(String when, HandsAndWays x, int rules, int uses, int asked) {
        due(when + ": RULES", x.learnt(0), rules);
        due(when + ": USES", x.learnt(1), uses);
        due(when + ": ASKED", x.learnt(2), asked);
        due(when + ": RULES counted", x.count(7), rules);
    }

    private static void move(String when, HandsAndWays x, int i, int thing, int side, int cell) {
        due(when + ": thing of " + i, x.planned(i, 0), thing);
        due(when + ": side of " + i, x.planned(i, 1), side);
        due(when + ": cell of " + i, x.planned(i, 2), cell);
    }

    private static void none(String when, HandsAndWays x) {
        for (int what = 0; what < 3; what++) due(when + ": planned " + what, x.planned(0, what), -7);
    }

    /** Promises 29 and 30: one move, the least way, then the first side. */
    private static void oneMove() {
        HandsAndWays x = new HandsAndWays();
        x.thing(0, 1, 27);
        x.hand(0, 25);
        Check.sheet(x, 0);
        due("one: moves", x.plan(0, 0, 28, 0, 0), 1);
        due("one: far", x.planned(9, 3), 2);
        move("one", x, 0, 0, 3, 28);
        learnt("one", x, 0, 0, 4);
        due("one: nothing moved", x.thingTold(0, 1), 27);
        due("one: no hand", x.handTold(0, 0), 25);
        due("one: no steps", x.handTold(0, 2), 0);
        due("one: no move 1", x.planned(1, 0), -7);
        due("one: no move -1", x.planned(-1, 0), -7);
        due("one: what", x.planned(0, 4), -7);
        due("one: what below", x.planned(0, -1), -7);
        x.hand(0, 0);
        due("like: moves", x.plan(0, 0, 63, 0, 0), 1);
        move("like", x, 0, 0, 0, 63);
        due("like: far", x.planned(0, 3), 5 + 8);
        x.strong(2);
        due("heavy as strong: moves", x.plan(0, 0, 63, 0, 0), 1);
        x.strong(1);
        due("heavy: none", x.plan(0, 0, 63, 0, 0), -3);
        due("heavy: far", x.planned(0, 3), -3);
        none("heavy", x);
        learnt("heavy", x, 1, 1, 4);
    }

    /** Promise 29: from some sides alone, and not north or south. */
    private static void oneMoveByKind() {
        HandsAndWays x = new HandsAndWays();
        x.strong(99);
        x.thing(1, 2, 27);
        x.thing(5, 1, 51);
        x.hand(1, 19);
        Check.sheet(x, 0, 0, 1, 2, 3, 4);
        due("box: moves", x.plan(1, 0, 11, 255, 0), 1);
        move("box", x, 0, 0, 3, 11);
        due("box: far", x.planned(0, 3), 2 + 2);
        learnt("box", x, 0, 0, 4);
        due("flask: in its row", x.plan(1, 1, 48, 1, 0), 1);
        move("flask", x, 0, 1, 0, 48);
        due("flask: not out of its row", x.plan(1, 1, 40, 0, 0), -3);
        due("flask: box beyond its row", x.plan(1, 0, 31, 0, 0), -3);
    }

    /** Promise 29: 0 moves, ahead of -6. */
    private static void noMove() {
        HandsAndWays x = new HandsAndWays();
        x.thing(0, 1, 27);
        x.thing(0, 1, 5);
        x.hand(0, 26);
        x.hand(1, 4);
        Check.sheet(x, 0);
        due("none: moves", x.plan(0, 0, 27, 0, 0), 0);
        due("none: far", x.planned(0, 3), 0);
        none("none", x);
        x.plan(0, 0, 28, 0, 0);
        x.take(0, 0, 3);
        due("held: moves", x.plan(0, 0, 27, 0, 0), 0);
        due("held: far", x.planned(0, 3), 0);
        none("held", x);
        learnt("held", x, 0, 0, 0);
        due("held: by another", x.plan(1, 0, 28, 0, 0), -6);
        due("held: what was found is gone", x.planned(0, 3), -3);
        due("held: holds one", x.plan(0, 1, 28, 0, 0), -6);
        due("held: another's can be", x.plan(1, 1, 7, 0, 0), 1);
        due("held: found", x.planned(0, 3), 2);
        due("held: a refusal leaves it", x.plan(1, 1, 7, 256, 0), -2);
        due("held: is there still", x.planned(0, 3), 2);
    }

    /** Promise 29, what is refused. */
    private static void planRefuses() {
        HandsAndWays x = new HandsAndWays();
        x.thing(0, 1, 27);
        x.hand(0, 0);
        Check.sheet(x, 0, 1, 2, 3, 4, 5);
        Check.sheet(x, 1, 1, 2, 3, 4, 5, 6);
        Check.sheet(x, 2, 1, 64);
        due("plan: no such hand", x.plan(2, 0, 0, 0, 0), -5);
        due("plan: hand not there", x.plan(1, 0, 0, 0, 0), -5);
        due("plan: no such thing", x.plan(0, 1, 0, 0, 0), -5);
        due("plan: thing below", x.plan(0, -1, 0, 0, 0), -5);
        due("plan: no such cell", x.plan(0, 0, 64, 0, 0), -5);
        due("plan: cell below", x.plan(0, 0, -1, 0, 0), -5);
        due("plan: no such sheet", x.plan(0, 0, 0, 0, 4), -5);
        due("plan: sheet below", x.plan(0, 0, 0, 0, -1), -5);
        due("plan: missing", x.plan(0, 0, 0, 0, 3), -11);
        due("plan: -5 ahead of -11", x.plan(0, 0, 64, 0, 3), -5);
        due("plan: -11 ahead of BAD", x.plan(0, 0, 0, 256, 3), -11);
        due("plan: size", x.plan(0, 0, 0, 0, 1), -2);
        due("plan: bits", x.plan(0, 0, 0, 256, 0), -2);
        due("plan: bits below", x.plan(0, 0, 0, -1, 0), -2);
        due("plan: no cell", x.plan(0, 0, 0, 0, 2), -2);
        due("plan: BAD ahead of 0", x.plan(0, 0, 27, 0, 2), -2);
        x.cell(2, 1, -1);
        due("plan: cell below 0", x.plan(0, 0, 0, 0, 2), -2);
        due("plan: nothing was gone", x.planned(0, 3), 0);
        x.sheet(3, 0, 2);
        x.cell(3, 0, 256 + 7);
        due("plan: of bytes", x.plan(0, 0, 28, 0, 3), 1);
    }

    /** Promise 29: a thing stands in the way, and is told, or not. */
    private static HandsAndWays corridor() {
        HandsAndWays x = Check.room(
            "........",
            "###.####");
        x.thing(3, 1, 2);
        x.thing(0, 1, 6);
        x.hand(0, 0);
        return x;
    }

    private static void twoMoves() {
        HandsAndWays x = corridor();
        Check.sheet(x, 0, 11, 3, 5);
        due("two: not told", x.plan(0, 1, 5, 2, 0), -3);
        learnt("two: not told", x, 1, 1, 4);
        due("two: told", x.plan(0, 1, 5, 1, 0), -3);
        HandsAndWays y = Check.room(
            "........",
            "##.#####",
            "##.#####");
        y.thing(0, 1, 10);
        y.thing(1, 1, 4);
        y.hand(0, 10 - 8);
        Check.sheet(y, 0, 18, 0, 2);
        due("two: the aim is nearer", y.plan(0, 1, 5, 1, 0), 1);
        due("two: far", y.planned(0, 3), 2);
        move("two: one alone", y, 0, 1, 3, 5);
        due("two: into the niche", y.plan(0, 1, 10, 1, 0), -3);
        HandsAndWays z = Check.room(
            "........",
            "........",
            "##.#####");
        z.thing(0, 1, 18);
        z.thing(0, 1, 12);
        z.hand(0, 0);
        Check.sheet(z, 0, 63, 8, 9, 15);
        due("two: first away, then there", z.plan(0, 1, 18, 1, 0), 2);
        due("two: the least way in all", z.planned(0, 3), 3 + 2 + 3 + 3);
        move("two: away", z, 0, 0, 0, 9);
        move("two: there", z, 1, 1, 0, 18);
        due("two: no third", z.planned(2, 0), -7);
        learnt("two: rules", z, 1 + 2, 1, 4 + 4 * 4 + 2 * 4);
        due("two: nothing moved", z.thingTold(0, 1), 18);
        due("two: nor the aim", z.thingTold(1, 1), 12);
        due("two: nor the hand", z.handTold(0, 0), 0);
    }

    /** Promise 29: of like rows the least way, then thing, place and sides in order. */
    private static void likeRows() {
        HandsAndWays x = Check.room(
            ".....",
            ".###.",
            ".....");
        x.thing(3, 1, 2);
        x.thing(3, 1, 18);
        x.thing(3, 1, 12);
        x.hand(0, 8);
        Check.sheet(x, 0, 3, 19);
        due("like: moves", x.plan(0, 2, 4, 0, 0), -3);
        int rules = x.learnt(0);
        due("like: a rule", rules, 1);
        due("like: moves with others", x.plan(0, 2, 4, 7, 0), -3);
        learnt("like", x, 5, 3, 6 * 4);
        HandsAndWays y = new HandsAndWays();
        y.thing(0, 1, 27);
        y.hand(0, 0);
        y.wall(28, 1);
        y.wall(18, 1);
        y.wall(34, 1);
        Check.sheet(y, 0);
        due("like: sides", y.plan(0, 0, 26, 0, 0), 1);
        move("like: sides", y, 0, 0, 3, 26);
    }

    /** Promise 31: what is learnt is used while all is just so. */
    private static void rulesAreUsed() {
        HandsAndWays x = Check.room(
            "..#.....",
            "..#.....",
            "..#.....");
        x.thing(0, 1, 4);
        x.hand(0, 0);
        Check.sheet(x, 0);
        due("rule: none", x.plan(0, 0, 6, 0, 0), -3);
        learnt("rule: learnt, and used for 2 moves", x, 1, 1, 4);
        x.plan(0, 0, 6, 0, 0);
        learnt("rule: used", x, 1, 3, 0);
        x.plan(0, 0, 7, 0, 0);
        learnt("rule: another cell", x, 2, 4, 4);
        x.go(0, 1);
        x.plan(0, 0, 6, 0, 0);
        learnt("rule: another hand's cell", x, 3, 5, 4);
        x.go(0, 0);
        x.hand(1, 17);
        x.plan(0, 0, 6, 0, 0);
        learnt("rule: the other hand", x, 4, 6, 4);
        x.hand(1, 16);
        x.plan(0, 0, 6, 0, 0);
        learnt("rule: the other hand elsewhere", x, 5, 7, 4);
        x.wall(8, 1);
        x.plan(0, 0, 6, 0, 0);
        learnt("rule: a wall more", x, 6, 8, 4);
        x.wall(8, 0);
        x.door(8, -1);
        x.plan(0, 0, 6, 0, 0);
        learnt("rule: a shut door like the wall", x, 6, 10, 0);
        x.strong(9);
        x.plan(0, 0, 6, 0, 0);
        learnt("rule: stronger", x, 7, 11, 4);
        x.thing(0, 1, 20);
        x.plan(0, 0, 6, 0, 0);
        learnt("rule: another thing", x, 8, 12, 4);
        x.plan(0, 1, 6, 0, 0);
        learnt("rule: of another thing", x, 9, 13, 4);
        x.image();
        x.back();
        x.plan(0, 1, 6, 0, 0);
        learnt("rule: an image leaves them", x, 9, 15, 0);
        due("learnt: what", x.learnt(3), -2);
        due("learnt: what below", x.learnt(-1), -2);
    }

    /** Promise 31: 12 rules, and where the thing lies. */
    private static void rulesAreFull() {
        HandsAndWays x = Check.room("..#.....");
        x.thing(0, 1, 4);
        x.hand(0, 0);
        Check.sheet(x, 0);
        for (int i = 0; i < 12; i++) x.plan(0, 0, 8 + i, 0, 0);
        learnt("full: 12", x, 12, 12, 4);
        due("full: asked", x.plan(0, 0, 40, 0, 0), -3);
        learnt("full: asked for 1 and for 2", x, 12, 12, 8);
        x.plan(0, 0, 19, 0, 0);
        learnt("full: the last one", x, 12, 14, 0);
        HandsAndWays y = Check.room("..#.....");
        y.thing(0, 1, 4);
        y.hand(1, 5);
        y.hand(0, 0);
        Check.sheet(y, 0);
        y.plan(0, 0, 6, 0, 0);
        y.take(1, 0, 1);
        y.go(1, 6);
        y.put(1);
        y.hand(1, 4);
        y.hand(1, 7);
        y.plan(0, 0, 6, 0, 0);
        due("lies: it is there", y.planned(0, 3), -3);
        learnt("lies: elsewhere", y, 2, 2, 4);
    }

    /** Promise 29: the aim lies nowhere, others that lie nowhere aren't moved. */
    private static void whatLiesNowhere() {
        HandsAndWays x = new HandsAndWays();
        x.hand(0, 0);
        x.image();
        x.thing(0, 1, 9);
        x.thing(0, 1, 18);
        x.back();
        Check.sheet(x, 0, 20, 21);
        due("nowhere: none", x.plan(0, 0, 9, 255, 0), -3);
        learnt("nowhere", x, 1, 1, 4);
        x.thing(0, 1, 9);
        due("nowhere: another one's places", x.plan(0, 0, 9, 255, 0), -3);
        learnt("nowhere: asked on", x, 2 + 8, 2, 4 + 2 * 4 + 8 * 4);
    }

    public static void main(String[] args) {
        oneMove();
        oneMoveByKind();
        noMove();
        planRefuses();
        twoMoves();
        likeRows();
        rulesAreUsed();
        rulesAreFull();
        whatLiesNowhere();
        Check.end("PlansTest");
    }
}
