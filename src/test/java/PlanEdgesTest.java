/** The edges that the document names: of MOVES, PLANS and what is LEARNT (Terms, part 3), and of promises 29 to 31. */
public final class PlanEdgesTest {
    private static void due(String what, long got, long want) { Check.due(what, got, want); }

    private static void refused(String what, Check.Call call, int want) {
        Check.refused(what, PlanEdgesTest::furnished, call, want);
    }

    /** Hand 0 in an open room, hand 1 not there; three things; a plan of two moves was found. */
    private static HandsAndWays furnished() {
        HandsAndWays x = plain();
        x.plan(0, 1, 20, 255, 0);
        return x;
    }

    /** The same, nothing planned yet. */
    private static HandsAndWays plain() {
        HandsAndWays x = new HandsAndWays();
        x.thing(0, 1, 20);
        x.thing(3, 1, 44);
        x.thing(0, 1, 54);
        x.hand(0, 9);
        Check.sheet(x, 0, 40, 0, 63);
        Check.sheet(x, 1);
        Check.sheet(x, 2, 1, 2, 3, 4, 5, 6);
        return x;
    }

    private static void learnt(String when, HandsAndWays x, int rules, int uses, int asked) {
        due(when + ": RULES", x.learnt(0), rules);
        due(when + ": USES", x.learnt(1), uses);
        due(when + ": ASKED", x.learnt(2), asked);
    }

    private static void move(String when, HandsAndWays x, int i, int... told) {
        for (int what = 0; what < 3; what++) due(when + ": move " + i + ", " + what, x.planned(i, what), told[what]);
    }

    /** What was found last is gone. */
    private static void gone(String when, HandsAndWays x) {
        due(when + ": far is gone", x.planned(0, 3), -3);
        for (int i = 0; i < 2; i++) for (int what = 0; what < 3; what++) due(when + ": move is gone", x.planned(i, what), -7);
    }

    private static HandsAndWays eightThings() {
        HandsAndWays x = new HandsAndWays();
        for (int t = 0; t < 8; t++) x.thing(0, 1, 9 + t * 6);
        x.hand(0, 0);
        x.hand(1, 63);
        for (int s = 0; s < 4; s++) Check.sheet(x, s);
        return x;
    }

    /** Promise 29: "-5: HAND (not there, too), THING, CELL, SHEET; -11; BAD: .. bits". */
    private static void planTakesNumbers() {
        Check.Maker eight = PlanEdgesTest::eightThings;
        Check.span("plan: hand", eight, (x, n) -> x.plan(n, 0, 30, 0, 0), 0, 1, -5);
        Check.span("plan: aim", eight, (x, n) -> x.plan(0, n, 31, 0, 0), 0, 7, -5);
        Check.span("plan: cell", eight, (x, n) -> x.plan(0, 0, n, 0, 0), 0, 63, -5);
        Check.span("plan: bits", eight, (x, n) -> x.plan(0, 0, 30, n, 0), 0, 255, -2);
        Check.span("plan: sheet", eight, (x, n) -> x.plan(0, 0, 30, 0, n), 0, 3, -5);
        due("plan: to the first cell, where the hand is", eightThings().plan(0, 0, 0, 0, 0), 1);
        due("plan: to the last cell, where the other hand is", eightThings().plan(0, 0, 63, 0, 0), -3);
        refused("plan: hand not there", x -> x.plan(1, 0, 30, 0, 0), -5);
        refused("plan: thing not there", x -> x.plan(0, 3, 30, 0, 0), -5);
        refused("plan: sheet missing", x -> x.plan(0, 0, 30, 0, 3), -11);
        due("plan: no thing in the room", new HandsAndWays().plan(0, 0, 0, 0, 0), -5);
    }

    /** "places by a SHEET (0 to 5)"; "BAD: its size, .. a number that is no CELL"; of each sort. */
    private static void planTakesPlaces() {
        for (int n = 0; n <= 40; n++) {
            int size = n;
            Check.Maker sized = () -> {
                HandsAndWays x = furnished();
                x.sheet(3, size % 3, size);
                return x;
            };
            if (n <= 5) due("places: " + n, sized.make().plan(0, 0, 30, 0, 3), 1);
            else if (n < 9 || n == 40) Check.refused("places: " + n, sized, x -> x.plan(0, 0, 30, 0, 3), -2);
        }
        for (int place = 0; place < 5; place++) {
            int k = place;
            Check.CallOf call = (x, n) -> {
                x.cell(3, k, n);
                return x.plan(0, 0, 30, 0, 3);
            };
            HandsAndWays x = furnished();
            x.sheet(3, 2, 5);
            int[] bad = {-1, 64, Integer.MIN_VALUE, Integer.MAX_VALUE, 256, 65536}, good = {0, 63};
            for (int n : bad) due("places: " + n + " as place " + k, call.on(x, n), -2);
            due("places: what was found stays", x.planned(0, 0), 0);
            for (int n : good) due("places: " + n + " as place " + k, call.on(x, n), 1);
        }
        HandsAndWays x = furnished();
        x.sheet(3, 2, 3);
        x.cell(3, 2, 64);
        due("places: the last one is none", x.plan(0, 0, 30, 0, 3), -2);
        x.sheet(3, 2, 2);
        due("places: it is none any more", x.plan(0, 0, 30, 0, 3), 1);
        x.sheet(3, 0, 1);
        x.cell(3, 0, 256 + 63);
        due("places: a byte that wraps around", x.plan(0, 0, 30, 0, 3), 1);
        x.cell(3, 0, 128);
        due("places: a byte below 0", x.plan(0, 0, 30, 0, 3), -2);
        x.sheet(3, 1, 1);
        x.cell(3, 0, 65536 * 3);
        due("places: a short that wraps around", x.plan(0, 0, 30, 0, 3), 1);
        x.cell(3, 0, 32768);
        due("places: a short below 0", x.plan(0, 0, 30, 0, 3), -2);
    }

    /** "-5 ..; -11; BAD ..; -6 ..; STATE": which refusal comes first. */
    private static void refusalsInOrder() {
        refused("order: -5 ahead of -11", x -> x.plan(0, 3, 30, 0, 3), -5);
        refused("order: -5 ahead of BAD", x -> x.plan(0, 0, 64, 256, 2), -5);
        refused("order: -11 ahead of BAD", x -> x.plan(0, 0, 30, 256, 3), -11);
        refused("order: BAD ahead of 0 moves", x -> x.plan(0, 0, 20, 256, 0), -2);
        refused("order: BAD of the size ahead of 0 moves", x -> x.plan(0, 0, 20, 0, 2), -2);
        Check.Maker holds = () -> {
            HandsAndWays x = furnished();
            x.go(0, 19);
            x.take(0, 0, 3);
            return x;
        };
        Check.refused("order: -5 ahead of -6", holds, x -> x.plan(0, 3, 30, 0, 0), -5);
        Check.refused("order: -11 ahead of -6", holds, x -> x.plan(0, 1, 30, 0, 3), -11);
        Check.refused("order: BAD ahead of -6", holds, x -> x.plan(0, 1, 30, -1, 0), -2);
    }

    /** "(0: its first CELL is that, also if it is HELD; ahead of -6)"; "-6: the HAND holds one, or the aim is HELD". */
    private static void noMovesAheadOfMinusSix() {
        HandsAndWays x = plain();
        due("six: it lies there", x.plan(0, 0, 20, 255, 0), 0);
        due("six: of no moves", x.planned(0, 3), 0);
        due("six: first one", x.plan(0, 0, 21, 255, 0), 1);
        due("six: then none", x.plan(0, 0, 20, 255, 0), 0);
        due("six: of no moves, behind one", x.planned(0, 3), 0);
        due("six: no move 0", x.planned(0, 0), -7);
        x.go(0, 19);
        x.take(0, 0, 3);
        due("six: it is held there", x.plan(0, 0, 20, 255, 0), 0);
        due("six: holds one, another lies there", x.plan(0, 1, 44, 255, 0), 0);
        due("six: of no moves again", x.planned(0, 3), 0);
        due("six: holds the aim", x.plan(0, 0, 21, 255, 0), -6);
        gone("six: holds the aim", x);
        x.plan(0, 0, 20, 255, 0);
        due("six: holds another one", x.plan(0, 1, 45, 255, 0), -6);
        gone("six: holds another one", x);
        x.hand(1, 63);
        due("six: the aim is held by the other one", x.plan(1, 0, 21, 255, 0), -6);
        due("six: it is held there by the other one", x.plan(1, 0, 20, 255, 0), 0);
        due("six: a two wide one's last cell is not its first", twoWide().plan(0, 0, 10, 0, 0), 1);
        due("six: its first cell is", twoWide().plan(0, 0, 9, 0, 0), 0);
        learnt("six: nothing was learnt", x, 0, 0, 0);
    }

    private static HandsAndWays twoWide() {
        HandsAndWays x = new HandsAndWays();
        x.thing(0, 2, 9);
        x.hand(0, 63);
        Check.sheet(x, 0);
        return x;
    }

    /** "(then what was found last is gone:) -6 ..; STATE": and it stays by the refusals ahead of it. */
    private static void whatWasFoundIsGone() {
        HandsAndWays x = furnished();
        due("gone: first two", x.plan(0, 1, 20, 255, 0), 2);
        x.plan(2, 0, 0, 0, 0);
        x.plan(0, 0, 0, 0, 3);
        x.plan(0, 0, 0, 256, 0);
        due("gone: not yet", x.planned(1, 0), 1);
        x.wall(20, 0);
        due("gone: none", x.plan(0, 1, 20, 0, 0), -3);
        gone("gone: none", x);
        due("gone: one", x.plan(0, 1, 45, 0, 0), 1);
        due("gone: no second move of the one before", x.planned(1, 0), -7);
        due("gone: but the first", x.planned(0, 0), 1);
    }

    /** Promise 30: "-7: i, what"; "(At first: of no MOVES, 0.)"; "3 .. (i does not matter ..)". */
    private static void plannedTakesNumbers() {
        Check.Maker two = PlanEdgesTest::furnished;
        for (int what = 0; what < 3; what++) {
            int w = what;
            Check.span("planned: i, " + w, two, (x, n) -> x.planned(n, w), 0, 1, -7);
        }
        Check.span("planned: what of the first", two, (x, n) -> x.planned(0, n), 0, 3, -7);
        Check.span("planned: what of the last", two, (x, n) -> x.planned(1, n), 0, 3, -7);
        int far = furnished().planned(0, 3);
        for (int i : new int[] {Integer.MIN_VALUE, -1, 1, 2, Integer.MAX_VALUE}) due("planned: far, i " + i, furnished().planned(i, 3), far);
        HandsAndWays x = new HandsAndWays();
        for (int i = -1; i < 2; i++) {
            due("planned: at first, far", x.planned(i, 3), 0);
            for (int what = -1; what < 5; what++) if (what != 3) due("planned: at first, " + what, x.planned(i, what), -7);
        }
        HandsAndWays y = furnished();
        y.plan(0, 0, 5, 0, 0);
        due("planned: of one move, the second", y.planned(1, 0), -7);
    }

    /** Promise 31: "BAD"; nothing at first. */
    private static void learntTakesNumbers() {
        Check.span("learnt: what", PlanEdgesTest::furnished, (x, n) -> x.learnt(n), 0, 2, -2);
        learnt("learnt: at first", new HandsAndWays(), 0, 0, 0);
        HandsAndWays x = plain();
        x.image();
        x.plan(0, 0, 44, 0, 1);
        x.strong(1);
        x.plan(0, 0, 44, 0, 1);
        x.back();
        learnt("learnt: an image keeps none of it", x, 2, 2, 4);
        due("learnt: nor what was found", x.planned(0, 3), -3);
    }

    /** "ASKED: how many MOVES were asked in the latest PLAN (one for each side)". */
    private static void askedInTheLatest() {
        HandsAndWays x = plain();
        x.plan(0, 0, 5, 0, 1);
        learnt("asked: one that can be", x, 0, 0, 4);
        x.plan(0, 0, 64, 0, 1);
        x.plan(0, 0, 5, -1, 1);
        x.plan(0, 0, 5, 0, 3);
        learnt("asked: refusals leave it", x, 0, 0, 4);
        x.plan(0, 0, 20, 0, 1);
        learnt("asked: of no moves", x, 0, 0, 0);
    }

    /** "A MOVE .. (It can be HELD so, is not too heavy.)": pulled by a hand that can come beside it from one side alone. */
    private static void movesByKindAndSide() {
        int[] sides = {15, 10, 13, 15, 10, 5}, weights = {2, 5, 2, 1, 10, 1};
        for (int kind = 0; kind < 6; kind++) {
            for (int side = 0; side < 4; side++) {
                HandsAndWays x = besideFrom(side);
                x.thing(kind, 1, 27);
                x.strong(weights[kind]);
                boolean up = kind != 2 && kind != 5;
                boolean can = (sides[kind] >> side & 1) != 0 && (up || side % 2 == 1);
                String name = "move: kind " + kind + " side " + side;
                due(name, x.plan(0, 0, BESIDE[side], 0, 0), can ? 1 : -3);
                due(name + ", told", x.planned(0, 1), can ? side : -7);
                due(name + ", far", x.planned(0, 3), can ? 1 : -3);
                if (weights[kind] == 1) continue;
                x.strong(weights[kind] - 1);
                due(name + ", too heavy", x.plan(0, 0, BESIDE[side], 0, 0), -3);
            }
        }
    }

    private static final int[] BESIDE = {19, 28, 35, 26};

    private static HandsAndWays besideFrom(int side) {
        HandsAndWays x = new HandsAndWays();
        for (int c : BESIDE) if (c != BESIDE[side]) x.wall(c, 1);
        x.hand(0, BESIDE[side]);
        Check.sheet(x, 0);
        return x;
    }

    /** A MOVE is a WAY "to where it is HELD from that side": of two wide ones, at the room's edges. */
    private static void movesAtTheEdges() {
        int[] firsts = {0, 6, 56, 62};
        for (int first : firsts) {
            HandsAndWays x = new HandsAndWays();
            x.thing(0, 2, first);
            x.hand(0, 27);
            Check.sheet(x, 0);
            for (int to : firsts) {
                if (to == first) continue;
                // at the corner over against it no side of it is in the room that was in the room here
                boolean over = to == 62 - first;
                due("edges: from " + first + " to " + to, x.plan(0, 0, to, 0, 0), over ? -3 : 1);
                if (!over) playsAsPlanned("edges: from " + first + " to " + to, x, 0);
            }
            due("edges: not in one row", x.plan(0, 0, 7, 0, 0), -3);
            due("edges: not in the room", x.plan(0, 0, 63, 0, 0), -3);
        }
        HandsAndWays y = new HandsAndWays();
        y.thing(0, 1, 0);
        y.hand(1, 63);
        Check.sheet(y, 0);
        due("edges: from the first cell to the last", y.plan(1, 0, 63, 0, 0), -3);
        due("edges: to the one ahead of it", y.plan(1, 0, 62, 0, 0), 1);
        playsAsPlanned("edges: to the one ahead of it", y, 1);
        due("edges: and beside it", y.plan(1, 0, 1, 0, 0), 1);
        playsAsPlanned("edges: and beside it", y, 1);
    }

    /** A hand in cell 0 holds from the north what lies in the next row, or from the west what lies beside it. */
    private static void movesByAHandInTheFirstCell() {
        HandsAndWays x = new HandsAndWays();
        x.thing(5, 1, 8);
        x.hand(0, 63);
        x.wall(16, 1);
        x.wall(17, 1);
        Check.sheet(x, 0);
        due("first cell: flask", x.plan(0, 0, 9, 0, 0), 1);
        move("first cell: flask", x, 0, 0, 0, 9);
        playsAsPlanned("first cell: flask", x, 0);
        due("first cell: and there again", comesBack(x), 1);
        HandsAndWays y = new HandsAndWays();
        y.thing(1, 1, 1);
        y.hand(0, 63);
        y.wall(2, 1);
        Check.sheet(y, 0);
        due("first cell: box", y.plan(0, 0, 9, 0, 0), 1);
        move("first cell: box", y, 0, 0, 3, 9);
        playsAsPlanned("first cell: box", y, 0);
        due("first cell: box, and there again", comesBack(y), 1);
    }

    /** Plays what was planned, and plans the way back to where the thing lay. */
    private static int comesBack(HandsAndWays x) {
        int was = x.thingTold(0, 1);
        x.play(0, x.count(3) - 1);
        return x.plan(0, 0, was, 0, 0);
    }

    private static int handAt(int first, int wide, int side) {
        return first + (side == 0 ? -8 : side == 1 ? wide : side == 2 ? 8 : -1);
    }

    /** The moves as acts of a program: they go just as far as planned. */
    private static void playsAsPlanned(String when, HandsAndWays x, int h) {
        StringBuilder text = new StringBuilder();
        for (int i = 0; x.planned(i, 0) >= 0; i++) {
            int t = x.planned(i, 0), side = x.planned(i, 1), to = x.planned(i, 2), wide = x.thingTold(t, 6);
            text.append("g").append(handAt(x.thingTold(t, 1), wide, side)).append(";t").append(t).append("nesw".charAt(side));
            text.append(";g").append(handAt(to, wide, side)).append(";p;");
        }
        int p = Check.program(x, text.toString());
        due(when + ": it can be played", x.judge(h, p, -1), -1);
        due(when + ": so far", x.judge(h, p, 1), x.planned(0, 3));
    }

    /** "The fewest MOVES": a long one ahead of two short ones. */
    private static void theFewestMoves() {
        HandsAndWays x = new HandsAndWays();
        for (int c = 24; c < 30; c++) if (c != 25) x.wall(c, 1);
        x.thing(0, 1, 25);
        x.thing(0, 1, 18);
        x.hand(0, 9);
        Check.sheet(x, 0, 41);
        due("fewest: one", x.plan(0, 1, 33, 255, 0), 1);
        learnt("fewest: one", x, 0, 0, 4);
        int far = x.planned(0, 3);
        playsAsPlanned("fewest: one", x, 0);
        x.wall(30, 1);
        x.wall(31, 1);
        due("fewest: two", x.plan(0, 1, 33, 255, 0), 2);
        due("fewest: two are " + x.planned(0, 3) + ", one was " + far, x.planned(0, 3) < far ? 1 : 0, 1);
        move("fewest: two", x, 0, 0, 0, 41);
        playsAsPlanned("fewest: two", x, 0);
    }

    /** "of like ones the first by: THING": two openings, each with a thing in it; whichever is thing 0 is moved. */
    private static void theFirstThing() {
        for (int first = 20; first <= 36; first += 16) {
            HandsAndWays x = new HandsAndWays();
            for (int y = 0; y < 8; y++) if (y != 2 && y != 4) x.wall(8 * y + 4, 1);
            for (int k = 0; k < 8; k++) x.wall(56 + k, 1);
            x.thing(0, 1, first);
            x.thing(0, 1, 56 - first);
            x.thing(0, 1, 27);
            x.hand(0, 24);
            Check.sheet(x, 0, 25);
            due("thing: moves", x.plan(0, 2, 30, 3, 0), 2);
            move("thing: the first", x, 0, 0, 3, 25);
            playsAsPlanned("thing: the first", x, 0);
            int far = x.planned(0, 3);
            due("thing: the other one alone", x.plan(0, 2, 30, 2, 0), 2);
            move("thing: the other one alone", x, 0, 1, 3, 25);
            due("thing: as far", x.planned(0, 3), far);
        }
    }

    /** "place": of like places the one that is told first. */
    private static void theFirstPlace() {
        for (int place = 22; place <= 38; place += 16) {
            HandsAndWays x = new HandsAndWays();
            for (int y = 0; y < 8; y++) if (y != 3) x.wall(8 * y + 4, 1);
            for (int k = 0; k < 8; k++) x.wall(56 + k, 1);
            x.thing(0, 1, 28);
            x.thing(0, 1, 26);
            x.hand(0, 24);
            Check.sheet(x, 0, 28, place, 60 - place, place);
            due("place: moves", x.plan(0, 1, 29, 255, 0), 2);
            move("place: the first", x, 0, 0, 3, place);
            due("place: far", x.planned(0, 3), 5 + 3 + 3 + 3);
            playsAsPlanned("place: the first", x, 0);
        }
    }

    /** "side of the first MOVE, then side of the last one". */
    private static void theFirstSides() {
        HandsAndWays x = new HandsAndWays();
        for (int k = 0; k < 8; k++) x.wall(56 + k, 1);
        x.thing(5, 1, 28);
        x.thing(0, 1, 25);
        x.hand(0, 24);
        Check.sheet(x, 0, 31);
        due("sides: moves", x.plan(0, 1, 28, 1, 0), 2);
        move("sides: from the north", x, 0, 0, 0, 31);
        move("sides: from the north, too", x, 1, 1, 0, 28);
        due("sides: far", x.planned(0, 3), 5 + 3 + 6 + 3);
        x.wall(17, 1);
        x.wall(18, 1);
        due("sides: walls to the north", x.plan(0, 1, 28, 1, 0), 2);
        playsAsPlanned("sides: walls to the north", x, 0);
    }

    /** The aim, thing 0, to a walled cell; seven chests that are too heavy: nothing can be. */
    private static HandsAndWays nothingCanBe() {
        HandsAndWays x = new HandsAndWays();
        x.wall(63, 1);
        x.thing(0, 1, 0);
        for (int t = 1; t < 8; t++) x.thing(4, 1, 8 * t);
        x.hand(0, 62);
        Check.sheet(x, 0, 7, 15, 23, 31, 39);
        return x;
    }

    /** "others, that are told .., to each place in order, in which they aren't": how many are asked. */
    private static void whoIsAsked() {
        for (int bits = 0; bits < 256; bits += 5) {
            HandsAndWays x = nothingCanBe();
            int told = Integer.bitCount(bits & 0xfe);
            due("asked: bits " + bits, x.plan(0, 0, 63, bits, 0), -3);
            learnt("asked: bits " + bits, x, Math.min(12, 1 + 5 * told), 1, 4 + 20 * told);
        }
        HandsAndWays x = nothingCanBe();
        Check.sheet(x, 0, 8, 8, 16, 7, 7);
        x.plan(0, 0, 63, 2, 0);
        learnt("asked: not to where it is; twice to the same place is a use", x, 1 + 2, 1 + 1, 4 + 2 * 4);
        Check.sheet(x, 1, 31);
        x.plan(0, 0, 63, 4, 1);
        learnt("asked: not for the places of the plan before", x, 3 + 1, 2 + 2, 4);
        HandsAndWays y = nothingCanBe();
        Check.sheet(y, 0);
        y.plan(0, 0, 63, 255, 0);
        learnt("asked: no places", y, 1, 1, 4);
        HandsAndWays z = new HandsAndWays();
        z.wall(63, 1);
        z.thing(0, 1, 0);
        z.hand(0, 62);
        Check.sheet(z, 0, 7);
        due("asked: bits of none that is there", z.plan(0, 0, 63, 255, 0), -3);
        learnt("asked: bits of none that is there", z, 1, 1, 4);
    }

    /** "that are told and lie, aren't HELD". */
    private static void whoIsNotAsked() {
        HandsAndWays x = nothingCanBe();
        x.hand(1, 9);
        x.strong(10);
        x.take(1, 1, 1);
        x.strong(8);
        x.plan(0, 0, 63, 2, 0);
        learnt("not asked: held", x, 1, 1, 4);
        x.put(1);
        x.plan(0, 0, 63, 2, 0);
        learnt("not asked: lies again", x, 6, 3, 20);
        HandsAndWays y = new HandsAndWays();
        y.wall(63, 1);
        y.hand(0, 62);
        y.thing(0, 1, 0);
        y.image();
        y.thing(4, 1, 8);
        y.back();
        Check.sheet(y, 0, 7, 8);
        y.plan(0, 0, 63, 2, 0);
        learnt("not asked: lies nowhere", y, 1, 1, 4);
        y.plan(0, 1, 62, 0, 0);
        learnt("not asked: but the aim is", y, 2, 2, 4);
        y.plan(0, 1, 62, 1, 0);
        due("not asked: the aim lies nowhere, whatever is moved", y.planned(0, 3), -3);
        for (int to = 0; to < 64; to += 9) {
            HandsAndWays z = new HandsAndWays();
            z.hand(0, 27);
            z.image();
            z.thing(0, 1, 9);
            z.back();
            Check.sheet(z, 0);
            due("not asked: what lies nowhere can't be brought to " + to, z.plan(0, 0, to, 0, 0), -3);
            learnt("not asked: a rule of what lies nowhere", z, 1, 1, 4);
            z.plan(0, 0, to, 0, 0);
            learnt("not asked: it is used", z, 1, 3, 0);
        }
    }

    /** "a RULE (12 at most)": the twelve first ones stay, and are used. */
    private static void twelveRules() {
        HandsAndWays x = nothingCanBe();
        Check.sheet(x, 0);
        for (int i = 0; i < 12; i++) {
            due("rules: none to " + (17 + i), x.plan(0, 1, 17 + i, 0, 0), -3);
            learnt("rules: " + (i + 1), x, i + 1, i + 1, 4);
        }
        due("rules: the 13th isn't learnt", x.plan(0, 1, 29, 0, 0), -3);
        learnt("rules: the 13th isn't learnt", x, 12, 12, 8);
        for (int i = 0; i < 12; i++) {
            x.plan(0, 1, 17 + i, 0, 0);
            learnt("rules: used " + i, x, 12, 12 + 2 * (i + 1), 0);
        }
        x.plan(0, 1, 29, 0, 0);
        learnt("rules: the 13th is asked again", x, 12, 36, 8);
        HandsAndWays y = nothingCanBe();
        y.plan(0, 0, 63, 255, 0);
        learnt("rules: of one plan", y, 12, 1, 4 + 4 * 35);
        y.plan(0, 0, 63, 255, 0);
        learnt("rules: of the same one again", y, 12, 1 + 1 + 12, 4 * 24);
    }

    /** "With a RULE that is just so": whichever hand it is; a thing in a taken cell is as good as a wall. */
    private static void rulesThatAreJustSo() {
        HandsAndWays x = nothingCanBe();
        Check.sheet(x, 0);
        x.hand(1, 30);
        x.plan(0, 1, 1, 0, 0);
        learnt("so: hand 0", x, 1, 1, 4);
        x.hand(0, 29);
        x.hand(1, 62);
        x.hand(0, 30);
        x.plan(1, 1, 1, 0, 0);
        learnt("so: hand 1 there, hand 0 where hand 1 was", x, 1, 3, 0);
        x.hand(0, 29);
        x.wall(30, 1);
        x.plan(1, 1, 1, 0, 0);
        learnt("so: a wall more", x, 2, 4, 4);
        x.hand(0, 62);
        x.hand(1, 29);
        x.hand(0, 61);
        x.hand(1, 62);
        x.hand(0, 29);
        x.plan(1, 1, 1, 0, 0);
        learnt("so: all is as it was", x, 2, 6, 0);
        x.wall(30, 0);
        x.door(30, -1);
        x.plan(1, 1, 1, 0, 0);
        learnt("so: a shut door for the wall", x, 2, 8, 0);
        x.open(0, 0);
        x.plan(1, 1, 1, 0, 0);
        learnt("so: an open door isn't taken", x, 3, 9, 4);
    }

    /** "the THING, the CELL, where it lies, where the HAND is, STRONG, and all CELLS that are taken": each one else is another RULE. */
    private static void rulesByEachOfTheSix() {
        for (int change = 0; change < 6; change++) {
            HandsAndWays x = nothingCanBe();
            Check.sheet(x, 0);
            x.plan(0, 1, 1, 0, 0);
            int thing = change == 0 ? 2 : 1, to = change == 1 ? 2 : 1;
            if (change == 2) {
                x.strong(10);
                x.hand(0, 9);
                x.take(0, 1, 1);
                x.go(0, 10);
                x.put(0);
                x.hand(0, 62);
                x.strong(8);
            }
            if (change == 3) x.hand(0, 61);
            if (change == 4) x.strong(9);
            if (change == 5) x.wall(55, 1);
            x.plan(0, thing, to, 0, 0);
            learnt("six: change " + change, x, 2, 2, 4);
        }
    }

    public static void main(String[] args) {
        planTakesNumbers();
        planTakesPlaces();
        refusalsInOrder();
        noMovesAheadOfMinusSix();
        whatWasFoundIsGone();
        plannedTakesNumbers();
        learntTakesNumbers();
        askedInTheLatest();
        movesByKindAndSide();
        movesAtTheEdges();
        movesByAHandInTheFirstCell();
        theFewestMoves();
        theFirstThing();
        theFirstPlace();
        theFirstSides();
        whoIsAsked();
        whoIsNotAsked();
        twelveRules();
        rulesThatAreJustSo();
        rulesByEachOfTheSix();
        Check.end("PlanEdgesTest");
    }
}
