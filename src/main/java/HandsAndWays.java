/** A room of cells in which two hands carry things, by single acts, by programs, or by plans. */
public final class HandsAndWays {
    public static final int NONE = -1, BAD = -2, STATE = -3, FULL = -4;
    public static final long NO = -4611686018427387904L;

    private static final int NO_SUCH = -5, NOT_EMPTY = -6, NO_WHAT = -7, CANNOT = -10;
    private static final int MISSING = -11, OUTSIDE = -12, UNLIKE = -13, BELOW_ZERO = -14;
    private static final int MOST_STRONG = 99, MOST_SHARE = 99, MOST_HANGING = 99;
    private static final int MOST_TICKS_A_CALL = 100, MOST_TICKS = 5000;

    private final Room room = new Room();
    private final Scene now = new Scene();
    // judge, cases and plan try things out here, so that what is now stays as it is
    private final Scene trial = new Scene();
    private final Scene kept = new Scene();
    private boolean hasImage = false;
    private final Ways ways = new Ways(room);
    private final Tape tape = new Tape();
    private final Acts acts = new Acts(room, ways, tape);
    private final Rules rules = new Rules();
    private final Planner planner = new Planner(room, ways, rules, trial);
    private final Chances chances = new Chances(room, ways, acts, trial);
    private final Sheets sheets = new Sheets();

    public HandsAndWays() {
    }

    // ---- the room

    public int wall(int c, int is) {
        if (!Cells.isCell(c)) return NONE;
        if (is != 0 && is != 1) return BAD;
        if (is == 1 && isThingOrHandIn(c)) return STATE;
        int was = Cells.has(room.walled, c) ? 1 : 0;
        room.walled = is == 1 ? room.walled | Cells.bit(c) : room.walled & ~Cells.bit(c);
        return was;
    }

    public int door(int c, int key) {
        if (!Cells.isCell(c)) return NONE;
        if (key != NONE && !isThing(key)) return NONE;
        if (key != NONE && !Kinds.isKey(room.kind[key])) return UNLIKE;
        if (Cells.has(room.walled, c) || isThingOrHandIn(c)) return STATE;
        if (room.doors >= Room.MOST_DOORS) return FULL;
        room.doorCell[room.doors] = c;
        room.doorKey[room.doors] = key;
        return room.doors++;
    }

    public int thing(int kind, int wide, int c) {
        if (!Cells.isCell(c)) return NONE;
        if (!Kinds.isKind(kind) || !Kinds.isWide(wide)) return BAD;
        if (!ways.canLie(now, NONE, wide, c)) return STATE;
        if (room.things >= Room.MOST_THINGS) return FULL;
        int t = room.things++;
        room.kind[t] = kind;
        room.wide[t] = wide;
        now.at[t] = c;
        return t;
    }

    public int hand(int h, int c) {
        if (!isHand(h) || !Cells.isCell(c)) return NO_SUCH;
        if (now.held[h] >= 0) return STATE;
        if (Cells.has(ways.takenFor(now, h, 0), c)) return STATE;
        int was = now.cell[h];
        now.cell[h] = c;
        return was;
    }

    public int strong(int n) {
        if (n < 1 || n > MOST_STRONG) return BAD;
        int was = room.strength;
        room.strength = n;
        return was;
    }

    // ---- acts

    public int go(int h, int c) {
        if (!isPresent(h) || !Cells.isCell(c)) return NO_SUCH;
        int before = now.steps[h];
        int why = acts.attempt(now, h, Acts.GO, c, 0);
        return why == 0 ? now.steps[h] - before : CANNOT - why;
    }

    public int take(int h, int t, int side) {
        if (!isHand(h) || !isThing(t) || !Cells.isSide(side)) return NO_SUCH;
        return answerOf(acts.attempt(now, h, Acts.TAKE, t, side));
    }

    public int put(int h) {
        if (!isHand(h)) return NO_SUCH;
        return answerOf(acts.attempt(now, h, Acts.PUT, 0, 0));
    }

    public int open(int h, int d) {
        if (!isHand(h) || !isDoor(d)) return NO_SUCH;
        return answerOf(acts.attempt(now, h, Acts.OPEN, d, 0));
    }

    // ---- ways

    public int way(int h, int c) {
        if (!isPresent(h) || !Cells.isCell(c)) return NO_SUCH;
        ways.floodFromHand(now, h, 0);
        int far = ways.farTo(c);
        return far < 0 ? STATE : far;
    }

    public int step(int h, int c, int i) {
        if (!isPresent(h) || !Cells.isCell(c)) return NO_SUCH;
        ways.floodFromHand(now, h, 0);
        int far = ways.farTo(c);
        if (far < 0 || i < 0 || i > far) return STATE;
        return ways.cellOnWay(c, i);
    }

    public int reached(int h, int what) {
        if (!isPresent(h)) return NO_SUCH;
        if (what != 0 && what != 1) return BAD;
        ways.floodFromHand(now, h, 0);
        return what == 0 ? Long.bitCount(ways.come) : ways.bars(now, h);
    }

    public int barred(int h, int c) {
        if (!isPresent(h) || !Cells.isCell(c)) return NO_SUCH;
        ways.floodFromHand(now, h, 0);
        if (ways.farTo(c) >= 0) return 0;
        int bits = 0;
        for (int t = 0; t < room.things; t++) {
            if (!now.isLoose(t)) continue;
            ways.floodFromHand(now, h, 1 << t);
            if (ways.farTo(c) >= 0) bits |= 1 << t;
        }
        return bits;
    }

    // ---- looking

    public int thingTold(int t, int what) {
        if (!isThing(t)) return NO_SUCH;
        switch (what) {
            case 0: return room.kind[t];
            case 1: return now.at[t];
            case 2: return now.holder[t];
            case 3: return now.heldSide[t];
            case 4: return Kinds.sidesOf(room.kind[t]);
            case 5: return room.weightOf(t);
            case 6: return room.wide[t];
            default: return NO_WHAT;
        }
    }

    public int handTold(int h, int what) {
        if (!isHand(h)) return NO_SUCH;
        switch (what) {
            case 0: return now.cell[h];
            case 1: return now.held[h];
            case 2: return now.steps[h];
            case 3: return now.running[h];
            case 4: return now.next[h];
            case 5: return now.blocked[h];
            default: return NO_WHAT;
        }
    }

    public int kindTold(int kind, int wide, int what) {
        if (!Kinds.isKind(kind) || !Kinds.isWide(wide)) return BAD;
        switch (what) {
            case 0: return Kinds.sidesOf(kind);
            case 1: return Kinds.weightOf(kind, wide);
            case 2: return Kinds.isKey(kind) ? 1 : 0;
            case 3: return Kinds.turnsUp(kind) ? 1 : 0;
            default: return BAD;
        }
    }

    public int cellTold(int c) {
        if (!Cells.isCell(c)) return NO_SUCH;
        if (Cells.has(room.walled, c)) return -10;
        if (Cells.has(ways.shutDoors(now), c)) return -11;
        if (now.cell[0] == c) return 100;
        if (now.cell[1] == c) return 101;
        return ways.leastThingIn(now, c);
    }

    public int isOpen(int d) {
        if (!isDoor(d)) return NONE;
        return now.isOpened(d) ? 1 : 0;
    }

    public int count(int what) {
        switch (what) {
            case 0: return now.tick;
            case 1: return room.things;
            case 2: return room.doors;
            case 3: return tape.programs;
            case 4: return tape.size;
            case 5: return room.strength;
            case 6: return chances.number;
            case 7: return rules.number;
            default: return BAD;
        }
    }

    // ---- programs

    public int feed(long w, int n) {
        if (n < 1 || n > 8) return BAD;
        if (tape.size + n > Tape.MOST_BYTES) return FULL;
        tape.append(w, n);
        return tape.size;
    }

    public int program() {
        if (tape.programs >= Tape.MOST_PROGRAMS) return FULL;
        int fault = tape.readProgram();
        return fault == NONE ? tape.programs - 1 : -100 - fault;
    }

    public int actTold(int p, int i, int what) {
        if (!isProgram(p)) return NO_SUCH;
        if (what == 3) return tape.length[p];
        if (i < 0 || i >= tape.length[p]) return NO_WHAT;
        switch (what) {
            case 0: return tape.act[Tape.placeOf(p, i)];
            case 1: return tape.number[Tape.placeOf(p, i)];
            case 2: return tape.side[Tape.placeOf(p, i)];
            default: return NO_WHAT;
        }
    }

    public int judge(int h, int p, int what) {
        if (!isHand(h) || !isProgram(p)) return NO_SUCH;
        if (what < -1 || what > 2) return NO_WHAT;
        trial.become(now);
        int why = acts.playAll(trial, h, p);
        switch (what) {
            case -1: return acts.failed;
            case 0: return why;
            case 1: return trial.steps[h] - now.steps[h];
            default: return trial.cell[h];
        }
    }

    public int play(int h, int p) {
        if (!isHand(h) || !isProgram(p)) return NO_SUCH;
        trial.become(now);
        int why = acts.playAll(trial, h, p);
        if (why != 0) return CANNOT - why;
        now.become(trial);
        return now.steps[h];
    }

    public int start(int h, int p) {
        if (!isHand(h) || !isProgram(p)) return NO_SUCH;
        if (now.running[h] >= 0) return STATE;
        now.begin(h, p);
        return p;
    }

    public int run(int n) {
        if (n < 1 || n > MOST_TICKS_A_CALL) return BAD;
        if (now.tick + n > MOST_TICKS) return FULL;
        for (int i = 0; i < n; i++) {
            acts.tickHand(now, 0);
            acts.tickHand(now, 1);
            now.tick++;
        }
        return now.tick;
    }

    public int hangs(int n) {
        if (n < 1 || n > MOST_HANGING) return BAD;
        return now.isStuck(0, n) && now.isStuck(1, n) ? 1 : 0;
    }

    // ---- plans

    public int plan(int h, int aim, int to, int movable, int sheet) {
        if (!isPresent(h) || !isThing(aim) || !Cells.isCell(to) || !Sheets.isSheet(sheet)) return NO_SUCH;
        if (!sheets.isThere(sheet)) return MISSING;
        if (sheets.size[sheet] > Planner.MOST_PLACES || movable < 0 || movable > 255) return BAD;
        for (int i = 0; i < sheets.size[sheet]; i++) {
            if (!Cells.isCell(sheets.numberAt(sheet, i))) return BAD;
        }
        planner.forget();
        if (now.at[aim] == to) return planner.findNothingToDo();
        if (now.held[h] >= 0 || now.holder[aim] >= 0) return NOT_EMPTY;
        planner.clearPlaces();
        for (int i = 0; i < sheets.size[sheet]; i++) planner.addPlace(sheets.numberAt(sheet, i));
        trial.become(now);
        int moves = planner.find(h, aim, to, movable);
        return moves == 0 ? STATE : moves;
    }

    public int planned(int i, int what) {
        if (what == 3) return planner.found < 0 ? STATE : planner.far;
        if (what < 0 || what > 3 || i < 0 || i >= planner.found) return NO_WHAT;
        return planner.bestTold(i, what);
    }

    public int learnt(int what) {
        switch (what) {
            case 0: return rules.number;
            case 1: return rules.uses;
            case 2: return planner.asked;
            default: return BAD;
        }
    }

    // ---- half known

    public int maybe(int t, int c, int share) {
        if (!isThing(t) || !Cells.isCell(c)) return NONE;
        if (share < 1 || share > MOST_SHARE) return BAD;
        if (chances.number > 0 && chances.thing != t) return STATE;
        if (chances.number >= Chances.MOST_CASES) return FULL;
        return chances.add(t, c, share);
    }

    public int sure() {
        int were = chances.number;
        chances.number = 0;
        return were;
    }

    public int cases(int h, int p, int what) {
        if (!isHand(h) || !isProgram(p)) return NO_SUCH;
        if (what < 0 || what > 3) return BAD;
        chances.weigh(now, h, p);
        switch (what) {
            case 0: return chances.goodCases;
            case 1: return chances.above();
            case 2: return chances.below();
            default: return chances.mostSteps;
        }
    }

    // ---- images

    public int image() {
        kept.become(now);
        hasImage = true;
        return now.tick;
    }

    public int back() {
        if (!hasImage) return STATE;
        // what came since stands in the image as it does in a new object: lying nowhere, shut
        now.become(kept);
        return now.tick;
    }

    // ---- the host

    public int sheet(int s, int sort, int n) {
        if (!Sheets.isSheet(s) || sort < Sheets.NO_SORT || sort > Sheets.INTS) return BAD;
        if (sort == Sheets.NO_SORT) return sheets.make(s, Sheets.NO_SORT, 0);
        if (n > Sheets.MOST_NUMBERS) return BAD;
        if (n < 0) return BELOW_ZERO;
        return sheets.make(s, sort, n);
    }

    public int cell(int s, int i, int v) {
        if (!Sheets.isSheet(s)) return BAD;
        if (!sheets.isThere(s)) return MISSING;
        if (i < 0 || i >= sheets.size[s]) return OUTSIDE;
        sheets.write(s, i, v);
        return 1;
    }

    public int copy(int s, int i, int other, int j, int n) {
        if (!Sheets.isSheet(s) || !Sheets.isSheet(other)) return BAD;
        if (!sheets.isThere(s) || !sheets.isThere(other)) return MISSING;
        if (sheets.sort[s] != sheets.sort[other]) return UNLIKE;
        if (!sheets.isPart(s, i, n) || !sheets.isPart(other, j, n)) return OUTSIDE;
        sheets.copyPart(s, i, other, j, n);
        return n;
    }

    public int walls(int s, int sort, int from, int n) {
        if (!Sheets.isSheet(s) || sort < Sheets.BYTES || sort > Sheets.INTS) return BAD;
        if (n < 0 || n > Sheets.MOST_NUMBERS) return BAD;
        if (!sheets.isThere(s)) return MISSING;
        if (sheets.sort[s] != sort) return UNLIKE;
        int could = 0;
        for (int k = 0; k < n; k++) {
            // a place behind the greatest int turns up below 0, which is outside too
            int place = from + k;
            if (place < 0 || place >= sheets.size[s]) return OUTSIDE;
            if (wall(sheets.numberAt(s, place), 1) >= 0) could++;
        }
        return could;
    }

    public int taken(int c, int kind) {
        if (!Kinds.isKind(kind)) return BAD;
        if (!Cells.isCell(c)) return OUTSIDE;
        int t = ways.leastThingIn(now, c);
        if (t >= 0) return Kinds.isOf(room.kind[t], kind) ? t : UNLIKE;
        return Cells.has(room.walled | ways.shutDoors(now), c) ? UNLIKE : MISSING;
    }

    // ---- what the calls ask of their numbers

    private static boolean isHand(int h) {
        return h == 0 || h == 1;
    }

    private boolean isPresent(int h) {
        return isHand(h) && now.cell[h] >= 0;
    }

    private boolean isThing(int t) {
        return t >= 0 && t < room.things;
    }

    private boolean isDoor(int d) {
        return d >= 0 && d < room.doors;
    }

    private boolean isProgram(int p) {
        return p >= 0 && p < tape.programs;
    }

    private boolean isThingOrHandIn(int c) {
        return now.cell[0] == c || now.cell[1] == c || ways.leastThingIn(now, c) >= 0;
    }

    private static int answerOf(int why) {
        return why == 0 ? 0 : CANNOT - why;
    }

    /** Cells and sets of cells: cell c is bit c of a long, so that a whole room spreads in a few shifts. */
    private static final class Cells {
        static final int NORTH = 0, EAST = 1, SOUTH = 2, WEST = 3;
        private static final int WIDTH = 8, ALL = 64;
        private static final long WEST_COLUMN = 0x0101010101010101L;
        private static final long EAST_COLUMN = 0x8080808080808080L;

        private Cells() {
        }

        static boolean isCell(int c) {
            return c >= 0 && c < ALL;
        }

        static boolean isSide(int side) {
            return side >= NORTH && side <= WEST;
        }

        static long bit(int c) {
            return 1L << c;
        }

        static boolean has(long cells, int c) {
            return ((cells >>> c) & 1L) != 0L;
        }

        static int at(int x, int y) {
            return x < 0 || x >= WIDTH || y < 0 || y >= WIDTH ? NONE : y * WIDTH + x;
        }

        static int beside(int c, int side) {
            int x = c % WIDTH, y = c / WIDTH;
            switch (side) {
                case NORTH: return at(x, y - 1);
                case EAST: return at(x + 1, y);
                case SOUTH: return at(x, y + 1);
                default: return at(x - 1, y);
            }
        }

        static boolean areBeside(int a, int b) {
            for (int side = NORTH; side <= WEST; side++) {
                if (beside(a, side) == b) return true;
            }
            return false;
        }

        static long allBeside(long cells, boolean turns) {
            long level = (cells & ~EAST_COLUMN) << 1 | (cells & ~WEST_COLUMN) >>> 1;
            return turns ? level | cells << WIDTH | cells >>> WIDTH : level;
        }

        /** All cells so far off (dy is -1, 0 or 1); those that would leave the room are gone. */
        static long shifted(long cells, int dx, int dy) {
            long all = cells;
            if (dy > 0) all = all << WIDTH;
            if (dy < 0) all = all >>> WIDTH;
            for (int i = 0; i < dx; i++) all = (all & ~EAST_COLUMN) << 1;
            for (int i = 0; i > dx; i--) all = (all & ~WEST_COLUMN) >>> 1;
            return all;
        }

        static boolean isInRow(int first, int wide) {
            return first % WIDTH + wide <= WIDTH;
        }

        static long row(int first, int wide) {
            return first < 0 ? 0L : ((1L << wide) - 1L) << first;
        }

        /** How far east of a hand a thing's first cell is, that it holds from a side. */
        static int eastOfHand(int side, int wide) {
            return side == EAST ? -wide : side == WEST ? 1 : 0;
        }

        static int southOfHand(int side) {
            return side == NORTH ? 1 : side == SOUTH ? -1 : 0;
        }

        static int handCell(int first, int wide, int side) {
            return at(first % WIDTH - eastOfHand(side, wide), first / WIDTH - southOfHand(side));
        }
    }

    /** The kinds of things. */
    private static final class Kinds {
        private static final int BOX = 1, KEY = 3, CHEST = 4, FLASK = 5, HOW_MANY = 6;
        private static final int[] SIDES = {15, 10, 13, 15, 10, 5};
        private static final int[] ABOVE = {-1, 0, 0, 0, 1, 2};
        private static final int[] TURNS_UP = {1, 1, 0, 1, 1, 0};

        private Kinds() {
        }

        static boolean isKind(int kind) {
            return kind >= 0 && kind < HOW_MANY;
        }

        static boolean isWide(int wide) {
            return wide == 1 || wide == 2;
        }

        static int sidesOf(int kind) {
            return SIDES[kind];
        }

        static boolean isHeldFrom(int kind, int side) {
            return ((SIDES[kind] >> side) & 1) != 0;
        }

        static int weightOf(int kind, int wide) {
            int thing = 2 * wide, box = thing + 3;
            switch (kind) {
                case BOX: return box;
                case KEY: return thing / 2;
                case CHEST: return 2 * box;
                case FLASK: return thing - 1;
                default: return thing;
            }
        }

        static boolean isKey(int kind) {
            return kind == KEY;
        }

        static boolean turnsUp(int kind) {
            return TURNS_UP[kind] == 1;
        }

        static boolean isOf(int kind, int asked) {
            int k = kind;
            for (int i = 0; i < HOW_MANY && k >= 0; i++) {
                if (k == asked) return true;
                k = ABOVE[k];
            }
            return false;
        }
    }

    /** What there is, which no image keeps. */
    private static final class Room {
        static final int MOST_THINGS = 8, MOST_DOORS = 4;

        long walled = 0L;
        int strength = 8;
        int things = 0;
        final int[] kind = new int[MOST_THINGS];
        final int[] wide = new int[MOST_THINGS];
        int doors = 0;
        final int[] doorCell = new int[MOST_DOORS];
        final int[] doorKey = new int[MOST_DOORS];

        int weightOf(int t) {
            return Kinds.weightOf(kind[t], wide[t]);
        }

        /** Apart from where it lies and where a hand is. */
        boolean canBeHeld(int t, int side) {
            return Kinds.isHeldFrom(kind[t], side) && Kinds.weightOf(kind[t], wide[t]) <= strength;
        }
    }

    /** All that an image keeps. */
    private static final class Scene {
        private static final int HANDS = 2;

        int tick = 0;
        int opened = 0;
        final int[] at = new int[Room.MOST_THINGS];
        final int[] holder = new int[Room.MOST_THINGS];
        final int[] heldSide = new int[Room.MOST_THINGS];
        final int[] cell = {NONE, NONE};
        final int[] held = {NONE, NONE};
        final int[] steps = new int[HANDS];
        final int[] running = {NONE, NONE};
        final int[] next = new int[HANDS];
        final int[] waited = new int[HANDS];
        final int[] blocked = new int[HANDS];

        Scene() {
            for (int t = 0; t < Room.MOST_THINGS; t++) {
                at[t] = NONE;
                holder[t] = NONE;
                heldSide[t] = NONE;
            }
        }

        void become(Scene other) {
            tick = other.tick;
            opened = other.opened;
            System.arraycopy(other.at, 0, at, 0, Room.MOST_THINGS);
            System.arraycopy(other.holder, 0, holder, 0, Room.MOST_THINGS);
            System.arraycopy(other.heldSide, 0, heldSide, 0, Room.MOST_THINGS);
            System.arraycopy(other.cell, 0, cell, 0, HANDS);
            System.arraycopy(other.held, 0, held, 0, HANDS);
            System.arraycopy(other.steps, 0, steps, 0, HANDS);
            System.arraycopy(other.running, 0, running, 0, HANDS);
            System.arraycopy(other.next, 0, next, 0, HANDS);
            System.arraycopy(other.waited, 0, waited, 0, HANDS);
            System.arraycopy(other.blocked, 0, blocked, 0, HANDS);
        }

        boolean isOpened(int d) {
            return ((opened >> d) & 1) != 0;
        }

        boolean isLoose(int t) {
            return at[t] >= 0 && holder[t] < 0;
        }

        boolean isStuck(int h, int ticks) {
            return running[h] >= 0 && blocked[h] >= ticks;
        }

        void moveHand(int h, int c, int far) {
            int t = held[h];
            if (t >= 0) at[t] += c - cell[h];
            cell[h] = c;
            steps[h] += far;
        }

        void hold(int h, int t, int side) {
            held[h] = t;
            holder[t] = h;
            heldSide[t] = side;
        }

        void letGo(int h) {
            int t = held[h];
            if (t < 0) return;
            held[h] = NONE;
            holder[t] = NONE;
            heldSide[t] = NONE;
        }

        void begin(int h, int p) {
            running[h] = p;
            next[h] = 0;
            waited[h] = 0;
            blocked[h] = 0;
        }

        void endAct(int h) {
            next[h]++;
            waited[h] = 0;
            blocked[h] = 0;
        }
    }

    /** Which cells are taken, and the ways over the others. */
    private static final class Ways {
        private static final int MOST_LAYERS = 64;

        private final Room room;
        // layer k holds the cells that are k steps far in the latest flood
        private final long[] layers = new long[MOST_LAYERS];
        private int depth = 0;
        private long standable = 0L;
        private boolean turns = true;
        long come = 0L;

        Ways(Room room) {
            this.room = room;
        }

        long cellsOf(Scene s, int t) {
            return Cells.row(s.at[t], room.wide[t]);
        }

        long shutDoors(Scene s) {
            long cells = 0L;
            for (int d = 0; d < room.doors; d++) {
                if (((s.opened >> d) & 1) == 0) cells |= 1L << room.doorCell[d];
            }
            return cells;
        }

        int leastThingIn(Scene s, int c) {
            for (int t = 0; t < room.things; t++) {
                if (Cells.has(cellsOf(s, t), c)) return t;
            }
            return NONE;
        }

        /** What isn't free for a hand (NONE: both take their cells), as if some things (bits) weren't there. */
        long takenFor(Scene s, int h, int without) {
            long cells = room.walled | shutDoors(s);
            for (int t = 0; t < room.things; t++) {
                if (((without >> t) & 1) == 0) cells |= Cells.row(s.at[t], room.wide[t]);
            }
            for (int g = 0; g < Scene.HANDS; g++) {
                if (g != h && s.cell[g] >= 0) cells |= Cells.bit(s.cell[g]);
            }
            return cells;
        }

        boolean canLie(Scene s, int t, int wide, int c) {
            if (!Cells.isInRow(c, wide)) return false;
            long taken = takenFor(s, NONE, bitOf(t));
            return (taken & Cells.row(c, wide)) == 0L;
        }

        static int bitOf(int t) {
            return t < 0 ? 0 : 1 << t;
        }

        /** All cells that a hand comes to with its own thing, as if some things (bits) weren't there. */
        void floodFromHand(Scene s, int h, int without) {
            int t = s.held[h];
            int side = t < 0 ? 0 : s.heldSide[t];
            flood(s.cell[h], takenFor(s, h, without | bitOf(t)), t, side);
        }

        /** All cells that a hand comes to from a start, with a thing that it holds from a side (NONE: with none). */
        void flood(int start, long taken, int t, int side) {
            turns = t < 0 || Kinds.turnsUp(room.kind[t]);
            standable = ~taken;
            if (t >= 0) {
                int wide = room.wide[t];
                int dx = Cells.eastOfHand(side, wide), dy = Cells.southOfHand(side);
                for (int i = 0; i < wide; i++) standable &= Cells.shifted(~taken, -dx - i, -dy);
            }
            long edge = Cells.bit(start);
            come = edge;
            depth = 0;
            while (edge != 0L && depth < MOST_LAYERS) {
                layers[depth++] = edge;
                edge = Cells.allBeside(edge, turns) & standable & ~come;
                come |= edge;
            }
        }

        int farTo(int c) {
            for (int k = 0; k < depth; k++) {
                if (Cells.has(layers[k], c)) return k;
            }
            return NONE;
        }

        /** The cell on the way to an end, i steps from its start. */
        int cellOnWay(int end, int i) {
            int c = end;
            for (int k = farTo(end); k > i && c >= 0; k--) c = cellAhead(c, k - 1);
            return c;
        }

        private int cellAhead(int c, int k) {
            for (int side = Cells.NORTH; side <= Cells.WEST; side++) {
                // what doesn't turn up leaves all layers in one row: nothing lies north or south of it there
                int from = Cells.beside(c, side);
                if (from >= 0 && Cells.has(layers[k], from)) return from;
            }
            return NONE;
        }

        /** What bars the hand of the latest flood: its own thing never does. */
        int bars(Scene s, int h) {
            long missed = Cells.allBeside(come, turns) & ~standable;
            long cells = missed;
            int own = s.held[h];
            if (own >= 0) {
                int wide = room.wide[own], side = s.heldSide[own];
                int dx = Cells.eastOfHand(side, wide), dy = Cells.southOfHand(side);
                for (int i = 0; i < wide; i++) cells |= Cells.shifted(missed, dx + i, dy);
            }
            return thingsIn(s, cells, own) | shutDoorsIn(s, cells) << 8 | otherHandIn(s, cells, h) << 12;
        }

        private int thingsIn(Scene s, long cells, int own) {
            // no two things are ever in one cell, so each of them is its cells' least one
            int bits = 0;
            for (int t = 0; t < room.things; t++) {
                if (t != own && (cellsOf(s, t) & cells) != 0L) bits |= 1 << t;
            }
            return bits;
        }

        private int shutDoorsIn(Scene s, long cells) {
            int bits = 0;
            for (int d = 0; d < room.doors; d++) {
                if (!s.isOpened(d) && Cells.has(cells, room.doorCell[d])) bits |= 1 << d;
            }
            return bits;
        }

        private static int otherHandIn(Scene s, long cells, int h) {
            int c = s.cell[1 - h];
            return c >= 0 && Cells.has(cells, c) ? 1 : 0;
        }
    }

    /** The tape, and the programs that were read from it. */
    private static final class Tape {
        static final int MOST_BYTES = 120, MOST_PROGRAMS = 6;
        private static final int MOST_ACTS = 12;

        private final int[] bytes = new int[MOST_BYTES];
        int size = 0;
        int programs = 0;
        final int[] length = new int[MOST_PROGRAMS];
        final int[] act = new int[MOST_PROGRAMS * MOST_ACTS];
        final int[] number = new int[MOST_PROGRAMS * MOST_ACTS];
        final int[] side = new int[MOST_PROGRAMS * MOST_ACTS];
        private int place = 0;
        private int numberRead = 0;

        static int placeOf(int p, int i) {
            return p * MOST_ACTS + i;
        }

        void append(long w, int n) {
            for (int i = n - 1; i >= 0; i--) bytes[size++] = (int) (w >>> (8 * i)) & 255;
        }

        /** Makes the tape the next program: NONE, or the place of its fault. The tape is empty then. */
        int readProgram() {
            place = 0;
            int made = 0;
            boolean good = true;
            while (good && made < MOST_ACTS && (made == 0 || place < size)) {
                good = readAct(placeOf(programs, made));
                made++;
            }
            good = good && place >= size;
            size = 0;
            if (!good) return place;
            length[programs++] = made;
            return NONE;
        }

        private boolean readAct(int slot) {
            int which = actOf(here());
            if (which < 0) return false;
            place++;
            numberRead = 0;
            int from = 0;
            if (which != Acts.PUT && !readNumber(mostOf(which))) return false;
            if (which == Acts.TAKE) {
                from = sideOf(here());
                if (from < 0) return false;
                place++;
            }
            if (here() != ';') return false;
            place++;
            act[slot] = which;
            number[slot] = numberRead;
            side[slot] = from;
            return true;
        }

        private boolean readNumber(int most) {
            int digit = digitOf(here());
            if (digit < 0 || digit > most) return false;
            numberRead = digit;
            place++;
            digit = digitOf(here());
            if (digit < 0) return true;
            if (numberRead * 10 + digit > most) return false;
            numberRead = numberRead * 10 + digit;
            place++;
            return true;
        }

        private int here() {
            return place < size ? bytes[place] : NONE;
        }

        private static int digitOf(int b) {
            return b >= '0' && b <= '9' ? b - '0' : NONE;
        }

        private static int actOf(int b) {
            switch (b) {
                case 'g': return Acts.GO;
                case 't': return Acts.TAKE;
                case 'p': return Acts.PUT;
                case 'o': return Acts.OPEN;
                case 'w': return Acts.WAIT;
                default: return NONE;
            }
        }

        private static int sideOf(int b) {
            switch (b) {
                case 'n': return Cells.NORTH;
                case 'e': return Cells.EAST;
                case 's': return Cells.SOUTH;
                case 'w': return Cells.WEST;
                default: return NONE;
            }
        }

        private static int mostOf(int which) {
            switch (which) {
                case Acts.GO: return 63;
                case Acts.TAKE: return 7;
                case Acts.OPEN: return 3;
                default: return 99;
            }
        }
    }

    /** Acts, done at once or tick by tick. */
    private static final class Acts {
        static final int GO = 0, TAKE = 1, PUT = 2, OPEN = 3, WAIT = 4;
        private static final int NOT_NOW = 1, NOT_FROM_THERE = 2, TOO_HEAVY = 3, NO_WAY = 4;
        private static final int NO_SHUT_DOOR = 5, NO_KEY = 6, NOT_THERE = 7;

        private final Room room;
        private final Ways ways;
        private final Tape tape;
        // the act at which the program that was played last failed
        int failed = NONE;

        Acts(Room room, Ways ways, Tape tape) {
            this.room = room;
            this.ways = ways;
            this.tape = tape;
        }

        /** Does an act, if it can be done (0), or tells why it can't. */
        int attempt(Scene s, int h, int act, int number, int side) {
            if (act == WAIT) return 0;
            if (s.cell[h] < 0) return NOT_NOW;
            switch (act) {
                case GO: return attemptGo(s, h, number);
                case TAKE: return attemptTake(s, h, number, side);
                case PUT: return attemptPut(s, h);
                default: return attemptOpen(s, h, number);
            }
        }

        private int attemptGo(Scene s, int h, int c) {
            ways.floodFromHand(s, h, 0);
            int far = ways.farTo(c);
            if (far < 0) return NO_WAY;
            s.moveHand(h, c, far);
            return 0;
        }

        private int attemptTake(Scene s, int h, int t, int side) {
            if (s.held[h] >= 0 || t >= room.things || !s.isLoose(t)) return NOT_NOW;
            if (!Kinds.isHeldFrom(room.kind[t], side)) return NOT_FROM_THERE;
            if (room.weightOf(t) > room.strength) return TOO_HEAVY;
            if (Cells.handCell(s.at[t], room.wide[t], side) != s.cell[h]) return NOT_THERE;
            s.hold(h, t, side);
            return 0;
        }

        private static int attemptPut(Scene s, int h) {
            if (s.held[h] < 0) return NOT_NOW;
            s.letGo(h);
            return 0;
        }

        private int attemptOpen(Scene s, int h, int d) {
            if (d >= room.doors || s.isOpened(d)) return NO_SHUT_DOOR;
            if (!Cells.areBeside(s.cell[h], room.doorCell[d])) return NOT_THERE;
            int key = room.doorKey[d];
            if (key >= 0 && s.held[h] != key) return NO_KEY;
            s.opened |= 1 << d;
            return 0;
        }

        /** Why it failed (0: it didn't). */
        int playAll(Scene s, int h, int p) {
            failed = NONE;
            for (int i = 0; i < tape.length[p]; i++) {
                int slot = Tape.placeOf(p, i);
                int why = attempt(s, h, tape.act[slot], tape.number[slot], tape.side[slot]);
                if (why != 0) {
                    failed = i;
                    return why;
                }
            }
            return 0;
        }

        void tickHand(Scene s, int h) {
            int p = s.running[h];
            if (p < 0) return;
            int i = s.next[h];
            if (i >= tape.length[p]) {
                s.running[h] = NONE;
                return;
            }
            int slot = Tape.placeOf(p, i), act = tape.act[slot], number = tape.number[slot];
            switch (act) {
                case WAIT: tickWait(s, h, number); break;
                case GO: tickGo(s, h, number); break;
                default: tickOther(s, h, attempt(s, h, act, number, tape.side[slot])); break;
            }
        }

        private static void tickWait(Scene s, int h, int ticks) {
            s.waited[h]++;
            if (s.waited[h] >= ticks) s.endAct(h);
        }

        private void tickGo(Scene s, int h, int c) {
            if (s.cell[h] == c) {
                s.endAct(h);
                return;
            }
            int step = firstStep(s, h, c);
            if (step < 0) {
                s.blocked[h]++;
                return;
            }
            s.moveHand(h, step, 1);
            s.blocked[h] = 0;
            if (step == c) s.endAct(h);
        }

        private int firstStep(Scene s, int h, int c) {
            if (s.cell[h] < 0) return NONE;
            ways.floodFromHand(s, h, 0);
            return ways.farTo(c) < 0 ? NONE : ways.cellOnWay(c, 1);
        }

        private static void tickOther(Scene s, int h, int why) {
            if (why == 0) s.endAct(h);
            else s.blocked[h]++;
        }
    }

    /** What was learnt to be barred. */
    private static final class Rules {
        private static final int MOST_RULES = 12;

        int number = 0;
        int uses = 0;
        private final int[] thing = new int[MOST_RULES];
        private final int[] to = new int[MOST_RULES];
        private final int[] at = new int[MOST_RULES];
        private final int[] hand = new int[MOST_RULES];
        private final int[] strength = new int[MOST_RULES];
        private final long[] takenCells = new long[MOST_RULES];

        boolean isSo(int t, int c, int lies, int from, int strong, long takenNow) {
            for (int r = 0; r < number; r++) {
                if (thing[r] == t && to[r] == c && at[r] == lies && hand[r] == from
                        && strength[r] == strong && takenCells[r] == takenNow) return true;
            }
            return false;
        }

        void learn(int t, int c, int lies, int from, int strong, long takenNow) {
            if (number >= MOST_RULES) return;
            thing[number] = t;
            to[number] = c;
            at[number] = lies;
            hand[number] = from;
            strength[number] = strong;
            takenCells[number] = takenNow;
            number++;
        }
    }

    /** Seeks plans; a row of moves is kept as thing, side and cell of each. */
    private static final class Planner {
        static final int MOST_PLACES = 5;
        private static final int MOST_MOVES = 2, TOLD = 3;

        private final Room room;
        private final Ways ways;
        private final Rules rules;
        private final Scene scene;
        private final int[] places = new int[MOST_PLACES];
        private int placeCount = 0;
        private int hand = 0;
        private int aim = 0;
        private int goal = 0;
        private int movables = 0;
        int asked = 0;
        // moves of the plan that was found last (NONE: there is none)
        int found = 0;
        int far = 0;
        private final int[] best = new int[MOST_MOVES * TOLD];
        private final int[] row = new int[MOST_MOVES * TOLD];

        Planner(Room room, Ways ways, Rules rules, Scene scene) {
            this.room = room;
            this.ways = ways;
            this.rules = rules;
            this.scene = scene;
        }

        void forget() {
            found = NONE;
            far = 0;
            asked = 0;
        }

        int findNothingToDo() {
            found = 0;
            return 0;
        }

        void clearPlaces() {
            placeCount = 0;
        }

        void addPlace(int c) {
            if (placeCount < MOST_PLACES) places[placeCount++] = c;
        }

        int bestTold(int i, int what) {
            return best[i * TOLD + what];
        }

        /** Seeks from what the scene holds: how many moves (0: there is no plan). */
        int find(int h, int t, int c, int told) {
            hand = h;
            aim = t;
            goal = c;
            movables = told;
            for (int most = 1; most <= MOST_MOVES; most++) {
                seek(0, most, 0);
                if (found > 0) return found;
            }
            return 0;
        }

        /** All that may be move i of at most so many, behind moves that went so far. */
        private void seek(int i, int most, int gone) {
            if (i >= most) return;
            for (int t = 0; t < room.things; t++) {
                if (t == aim) {
                    askThing(t, goal, i, most, gone);
                } else if (i + 1 < most && ((movables >> t) & 1) != 0 && scene.isLoose(t)) {
                    askPlaces(t, i, most, gone);
                }
            }
        }

        private void askPlaces(int t, int i, int most, int gone) {
            for (int k = 0; k < placeCount; k++) {
                if (scene.at[t] != places[k]) askThing(t, places[k], i, most, gone);
            }
        }

        private void askThing(int t, int c, int i, int most, int gone) {
            int lies = scene.at[t], from = scene.cell[hand];
            long taken = ways.takenFor(scene, hand, 1 << t);
            if (rules.isSo(t, c, lies, from, room.strength, taken)) {
                rules.uses++;
                return;
            }
            boolean can = false;
            for (int side = Cells.NORTH; side <= Cells.WEST; side++) {
                asked++;
                int way = farOfMove(t, side, c, taken);
                if (way < 0) continue;
                can = true;
                noteMove(i, t, side, c);
                if (t == aim) {
                    keepRow(i + 1, gone + way);
                } else {
                    scene.at[t] = c;
                    scene.cell[hand] = Cells.handCell(c, room.wide[t], side);
                    seek(i + 1, most, gone + way);
                    scene.at[t] = lies;
                    scene.cell[hand] = from;
                }
            }
            if (!can) rules.learn(t, c, lies, from, room.strength, taken);
        }

        private int farOfMove(int t, int side, int c, long takenByOthers) {
            int lies = scene.at[t], wide = room.wide[t];
            if (lies < 0 || !room.canBeHeld(t, side)) return NONE;
            int start = Cells.handCell(lies, wide, side), end = Cells.handCell(c, wide, side);
            if (start < 0 || end < 0) return NONE;
            ways.flood(scene.cell[hand], takenByOthers | Cells.row(lies, wide), NONE, 0);
            int empty = ways.farTo(start);
            if (empty < 0) return NONE;
            ways.flood(start, takenByOthers, t, side);
            int loaded = ways.farTo(end);
            return loaded < 0 ? NONE : empty + loaded;
        }

        private void noteMove(int i, int t, int side, int c) {
            row[i * TOLD] = t;
            row[i * TOLD + 1] = side;
            row[i * TOLD + 2] = c;
        }

        /** The rows come in the order that decides between like ones, so only a shorter one is better. */
        private void keepRow(int moves, int way) {
            if (found >= 0 && far <= way) return;
            found = moves;
            far = way;
            System.arraycopy(row, 0, best, 0, moves * TOLD);
        }
    }

    /** The cases of a thing that may lie at several places. */
    private static final class Chances {
        static final int MOST_CASES = 6;

        private final Room room;
        private final Ways ways;
        private final Acts acts;
        private final Scene trial;
        int number = 0;
        int thing = NONE;
        private final int[] place = new int[MOST_CASES];
        private final int[] share = new int[MOST_CASES];
        int goodCases = 0;
        int mostSteps = 0;
        private int goodShares = 0;
        private int allShares = 0;

        Chances(Room room, Ways ways, Acts acts, Scene trial) {
            this.room = room;
            this.ways = ways;
            this.acts = acts;
            this.trial = trial;
        }

        int add(int t, int c, int by) {
            thing = t;
            place[number] = c;
            share[number] = by;
            return number++;
        }

        void weigh(Scene now, int h, int p) {
            goodCases = 0;
            goodShares = 0;
            allShares = 0;
            mostSteps = 0;
            for (int i = 0; i < number; i++) {
                allShares += share[i];
                if (!canLay(now, place[i])) continue;
                trial.become(now);
                trial.at[thing] = place[i];
                if (acts.playAll(trial, h, p) != 0) continue;
                goodCases |= 1 << i;
                goodShares += share[i];
                mostSteps = Math.max(mostSteps, trial.steps[h] - now.steps[h]);
            }
        }

        private boolean canLay(Scene now, int c) {
            return now.holder[thing] < 0 && ways.canLie(now, thing, room.wide[thing], c);
        }

        int above() {
            return goodShares == 0 ? 0 : goodShares / commonPart();
        }

        int below() {
            return goodShares == 0 ? 1 : allShares / commonPart();
        }

        /** At least 1, also of no shares. */
        private int commonPart() {
            int a = allShares, b = goodShares;
            for (int i = 0; i < 100 && b != 0; i++) {
                int rest = a % b;
                a = b;
                b = rest;
            }
            return Math.max(a, 1);
        }
    }

    /** The host's rows of numbers. */
    private static final class Sheets {
        static final int MOST_NUMBERS = 40;
        static final int NO_SORT = -1, BYTES = 0, INTS = 2;
        private static final int SHORTS = 1, HOW_MANY = 4;

        final int[] sort = {NO_SORT, NO_SORT, NO_SORT, NO_SORT};
        final int[] size = new int[HOW_MANY];
        private final int[] numbers = new int[HOW_MANY * MOST_NUMBERS];

        static boolean isSheet(int s) {
            return s >= 0 && s < HOW_MANY;
        }

        boolean isThere(int s) {
            return sort[s] != NO_SORT;
        }

        int make(int s, int as, int n) {
            sort[s] = as;
            size[s] = n;
            for (int i = 0; i < n; i++) numbers[s * MOST_NUMBERS + i] = 0;
            return 1;
        }

        int numberAt(int s, int i) {
            return numbers[s * MOST_NUMBERS + i];
        }

        void write(int s, int i, int v) {
            int kept = sort[s] == BYTES ? (byte) v : sort[s] == SHORTS ? (short) v : v;
            numbers[s * MOST_NUMBERS + i] = kept;
        }

        boolean isPart(int s, int from, int n) {
            return from >= 0 && n >= 0 && from <= size[s] && n <= size[s] - from;
        }

        void copyPart(int s, int i, int other, int j, int n) {
            System.arraycopy(numbers, s * MOST_NUMBERS + i, numbers, other * MOST_NUMBERS + j, n);
        }
    }
}
