import java.util.ArrayList;
import java.util.Arrays;
import java.util.List;

/**
 * The document once more, cell by cell and without a thought of speed, written apart from the program:
 * tests play the same calls on both.
 */
final class Oracle {
    private static final String[] ABOVE = {"", "THING", "THING", "THING", "BOX", "JUG"};

    static final class Thing implements Cloneable {
        int kind, wide, x = -1, y = -1, hand = -1, side = -1;

        boolean lies() {
            return x >= 0;
        }

        boolean covers(int cx, int cy) {
            return lies() && cy == y && cx >= x && cx < x + wide;
        }

        public Thing clone() {
            Thing t = new Thing();
            t.kind = kind; t.wide = wide; t.x = x; t.y = y; t.hand = hand; t.side = side;
            return t;
        }
    }

    static final class Hand {
        int cell = -1, thing = -1, steps, program = -1, next, waited, blocked;

        Hand twin() {
            Hand h = new Hand();
            h.cell = cell; h.thing = thing; h.steps = steps; h.program = program;
            h.next = next; h.waited = waited; h.blocked = blocked;
            return h;
        }
    }

    static final class World {
        int tick;
        List<Thing> things = new ArrayList<>();
        List<Boolean> open = new ArrayList<>();
        Hand[] hands = {new Hand(), new Hand()};

        World twin() {
            World w = new World();
            w.tick = tick;
            for (Thing t : things) w.things.add(t.clone());
            w.open.addAll(open);
            w.hands[0] = hands[0].twin();
            w.hands[1] = hands[1].twin();
            return w;
        }
    }

    record Act(char letter, int number, int side) { }

    record Rule(int thing, int cell, int lies, int hand, int strong, List<Boolean> taken) { }

    record Move(int thing, int side, int cell) { }

    private final boolean[] wall = new boolean[64];
    private final List<Integer> doorCell = new ArrayList<>(), doorKey = new ArrayList<>();
    private int strong = 8;
    private World w = new World(), image;
    private StringBuilder tape = new StringBuilder();
    private final List<List<Act>> programs = new ArrayList<>();
    private final List<Rule> rules = new ArrayList<>();
    private int uses, asked;
    private List<Move> plan = new ArrayList<>();
    private int planFar;
    private int caseThing;
    private final List<int[]> cases = new ArrayList<>();
    private final long[][] sheets = new long[4][];
    private final int[] sorts = {-1, -1, -1, -1};

    // kinds

    private static int sides(int kind) {
        return switch (kind) { case 1, 4 -> 2 + 8; case 2 -> 1 + 4 + 8; case 5 -> 1 + 4; default -> 1 + 2 + 4 + 8; };
    }

    private static int weight(int kind, int wide) {
        return switch (kind) {
            case 1 -> weight(0, wide) + 3;
            case 3 -> weight(0, wide) / 2;
            case 4 -> 2 * weight(1, wide);
            case 5 -> weight(2, wide) - 1;
            case 2 -> weight(0, wide);
            default -> 2 * wide;
        };
    }

    private static boolean turnsUp(int kind) {
        return kind != 2 && kind != 5;
    }

    private static boolean isA(int kind, int other) {
        String[] names = {"THING", "BOX", "JUG", "KEY", "CHEST", "FLASK"};
        for (String at = names[kind]; !at.isEmpty(); at = ABOVE[Arrays.asList(names).indexOf(at)]) {
            if (at.equals(names[other])) return true;
        }
        return false;
    }

    // the room

    private static boolean inRoom(int x, int y) {
        return x >= 0 && x < 8 && y >= 0 && y < 8;
    }

    private boolean shut(World v, int c) {
        for (int d = 0; d < doorCell.size(); d++) if (doorCell.get(d) == c && !v.open.get(d)) return true;
        return false;
    }

    private static int least(World v, int c, int but) {
        for (int t = 0; t < v.things.size(); t++) {
            if (t != but && v.things.get(t).covers(c % 8, c / 8)) return t;
        }
        return -1;
    }

    /** hand -1: of any. */
    private boolean free(World v, int c, int hand, int own) {
        if (wall[c] || shut(v, c)) return false;
        for (int t = 0; t < v.things.size(); t++) {
            if (t != own && v.things.get(t).covers(c % 8, c / 8)) return false;
        }
        for (int g = 0; g < 2; g++) if (g != hand && v.hands[g].cell == c) return false;
        return true;
    }

    private static int[] thingFrom(int hand, int side, int wide) {
        int x = hand % 8, y = hand / 8;
        return switch (side) {
            case 0 -> new int[] {x, y + 1};
            case 1 -> new int[] {x - wide, y};
            case 2 -> new int[] {x, y - 1};
            default -> new int[] {x + 1, y};
        };
    }

    private static int handFrom(int first, int side, int wide) {
        for (int c = 0; c < 64; c++) {
            int[] at = thingFrom(c, side, wide);
            if (at[0] == first % 8 && at[1] == first / 8) return c;
        }
        return -1;
    }

    /** A hand that would carry thing own (-1: none), held from a side. */
    private boolean stands(World v, int hand, int c, int own, int side) {
        if (!free(v, c, hand, own)) return false;
        if (own < 0) return true;
        int wide = v.things.get(own).wide;
        int[] at = thingFrom(c, side, wide);
        for (int i = 0; i < wide; i++) {
            if (!inRoom(at[0] + i, at[1])) return false;
            int k = at[1] * 8 + at[0] + i;
            if (k == c || !free(v, k, hand, own)) return false;
        }
        return true;
    }

    private static int beside(int c, int side) {
        int x = c % 8 + (side == 1 ? 1 : side == 3 ? -1 : 0), y = c / 8 + (side == 2 ? 1 : side == 0 ? -1 : 0);
        return inRoom(x, y) ? y * 8 + x : -1;
    }

    private int[] far(World v, int hand, int start, int own, int side) {
        int[] far = new int[64];
        Arrays.fill(far, -1);
        far[start] = 0;
        List<Integer> line = new ArrayList<>(List.of(start));
        for (int i = 0; i < line.size(); i++) {
            int c = line.get(i);
            for (int s = 0; s < 4; s++) {
                if (own >= 0 && !turnsUp(v.things.get(own).kind) && s % 2 == 0) continue;
                int n = beside(c, s);
                if (n < 0 || far[n] >= 0 || !stands(v, hand, n, own, side)) continue;
                far[n] = far[c] + 1;
                line.add(n);
            }
        }
        return far;
    }

    private int[] far(World v, int h) {
        Hand a = v.hands[h];
        return far(v, h, a.cell, a.thing, a.thing < 0 ? -1 : v.things.get(a.thing).side);
    }

    private List<Integer> wayTo(World v, int h, int[] far, int c) {
        List<Integer> way = new ArrayList<>(List.of(c));
        Hand a = v.hands[h];
        boolean level = a.thing >= 0 && !turnsUp(v.things.get(a.thing).kind);
        while (far[way.get(0)] > 0) {
            int end = way.get(0);
            for (int s = 0; s < 4; s++) {
                int n = beside(end, s);
                if (n < 0 || far[n] != far[end] - 1 || (level && s % 2 == 0)) continue;
                way.add(0, n);
                break;
            }
        }
        return way;
    }

    private static void walk(World v, int h, int c) {
        Hand a = v.hands[h];
        if (a.thing >= 0) {
            Thing t = v.things.get(a.thing);
            int[] at = thingFrom(c, t.side, t.wide);
            t.x = at[0];
            t.y = at[1];
        }
        a.cell = c;
    }

    // acts

    private int act(World v, int h, char letter, int n, int side) {
        Hand a = v.hands[h];
        if (letter == 'w') return 0;
        if (a.cell < 0) return 1;
        if (letter == 'g') {
            int[] far = far(v, h);
            if (far[n] < 0) return 4;
            a.steps += far[n];
            walk(v, h, n);
        } else if (letter == 't') {
            if (a.thing >= 0 || n >= v.things.size() || !v.things.get(n).lies() || v.things.get(n).hand >= 0) return 1;
            Thing t = v.things.get(n);
            if ((sides(t.kind) & 1 << side) == 0) return 2;
            if (weight(t.kind, t.wide) > strong) return 3;
            if (handFrom(t.y * 8 + t.x, side, t.wide) != a.cell) return 7;
            a.thing = n;
            t.hand = h;
            t.side = side;
        } else if (letter == 'p') {
            if (a.thing < 0) return 1;
            v.things.get(a.thing).hand = -1;
            v.things.get(a.thing).side = -1;
            a.thing = -1;
        } else {
            if (n >= doorCell.size() || v.open.get(n)) return 5;
            int dx = Math.abs(a.cell % 8 - doorCell.get(n) % 8), dy = Math.abs(a.cell / 8 - doorCell.get(n) / 8);
            if (dx + dy != 1) return 7;
            if (doorKey.get(n) >= 0 && a.thing != doorKey.get(n)) return 6;
            v.open.set(n, true);
        }
        return 0;
    }

    /** Which act fails (-1: none), and why. */
    private int[] played(World v, int h, int p) {
        for (int i = 0; i < programs.get(p).size(); i++) {
            Act a = programs.get(p).get(i);
            int why = act(v, h, a.letter, a.number, a.side);
            if (why != 0) return new int[] {i, why};
        }
        return new int[] {-1, 0};
    }

    // what the calls ask

    private static boolean isCell(int c) { return c >= 0 && c < 64; }
    private static boolean isHand(int h) { return h == 0 || h == 1; }
    private boolean isThere(int h) { return isHand(h) && w.hands[h].cell >= 0; }
    private boolean isThing(int t) { return t >= 0 && t < w.things.size(); }
    private boolean isProgram(int p) { return p >= 0 && p < programs.size(); }
    private boolean handIn(int c) { return w.hands[0].cell == c || w.hands[1].cell == c; }

    int wall(int c, int is) {
        if (!isCell(c)) return -1;
        if (is < 0 || is > 1) return -2;
        if (is == 1 && (least(w, c, -1) >= 0 || handIn(c))) return -3;
        int was = wall[c] ? 1 : 0;
        wall[c] = is == 1;
        return was;
    }

    int door(int c, int key) {
        if (!isCell(c) || (key != -1 && !isThing(key))) return -1;
        if (key != -1 && w.things.get(key).kind != 3) return -13;
        if (wall[c] || least(w, c, -1) >= 0 || handIn(c)) return -3;
        if (doorCell.size() == 4) return -4;
        doorCell.add(c);
        doorKey.add(key);
        w.open.add(false);
        return doorCell.size() - 1;
    }

    private boolean canLie(World v, int own, int wide, int c) {
        if (c % 8 + wide > 8) return false;
        for (int i = 0; i < wide; i++) if (!free(v, c + i, -1, own)) return false;
        return true;
    }

    int thing(int kind, int wide, int c) {
        if (!isCell(c)) return -1;
        if (kind < 0 || kind > 5 || wide < 1 || wide > 2) return -2;
        if (!canLie(w, -1, wide, c)) return -3;
        if (w.things.size() == 8) return -4;
        Thing t = new Thing();
        t.kind = kind;
        t.wide = wide;
        t.x = c % 8;
        t.y = c / 8;
        w.things.add(t);
        return w.things.size() - 1;
    }

    int hand(int h, int c) {
        if (!isHand(h) || !isCell(c)) return -5;
        if (w.hands[h].thing >= 0 || !free(w, c, h, -1)) return -3;
        int was = w.hands[h].cell;
        w.hands[h].cell = c;
        return was;
    }

    int strong(int n) {
        if (n < 1 || n > 99) return -2;
        int was = strong;
        strong = n;
        return was;
    }

    int go(int h, int c) {
        if (!isThere(h) || !isCell(c)) return -5;
        int before = w.hands[h].steps, why = act(w, h, 'g', c, 0);
        return why > 0 ? -10 - why : w.hands[h].steps - before;
    }

    private int done(int why) { return why > 0 ? -10 - why : 0; }

    int take(int h, int t, int side) {
        if (!isHand(h) || !isThing(t) || side < 0 || side > 3) return -5;
        return done(act(w, h, 't', t, side));
    }

    int put(int h) {
        if (!isHand(h)) return -5;
        return done(act(w, h, 'p', 0, 0));
    }

    int open(int h, int d) {
        if (!isHand(h) || d < 0 || d >= doorCell.size()) return -5;
        return done(act(w, h, 'o', d, 0));
    }

    int way(int h, int c) {
        if (!isThere(h) || !isCell(c)) return -5;
        int far = far(w, h)[c];
        return far < 0 ? -3 : far;
    }

    int step(int h, int c, int i) {
        if (!isThere(h) || !isCell(c)) return -5;
        int[] far = far(w, h);
        if (far[c] < 0 || i < 0 || i > far[c]) return -3;
        return wayTo(w, h, far, c).get(i);
    }

    int reached(int h, int what) {
        if (!isThere(h)) return -5;
        if (what < 0 || what > 1) return -2;
        int[] far = far(w, h);
        int comes = 0, bars = 0;
        int own = w.hands[h].thing;
        Thing held = own < 0 ? null : w.things.get(own);
        for (int c = 0; c < 64; c++) {
            if (far[c] < 0) continue;
            comes++;
            for (int s = 0; s < 4; s++) {
                int n = beside(c, s);
                if (n < 0 || (held != null && !turnsUp(held.kind) && s % 2 == 0)) continue;
                if (stands(w, h, n, own, held == null ? -1 : held.side)) continue;
                bars |= barsIn(h, n, own);
                if (held == null) continue;
                int[] at = thingFrom(n, held.side, held.wide);
                for (int i = 0; i < held.wide; i++) {
                    if (inRoom(at[0] + i, at[1])) bars |= barsIn(h, at[1] * 8 + at[0] + i, own);
                }
            }
        }
        return what == 0 ? comes : bars;
    }

    private int barsIn(int h, int c, int own) {
        int bits = least(w, c, own) >= 0 ? 1 << least(w, c, own) : 0;
        for (int d = 0; d < doorCell.size(); d++) if (doorCell.get(d) == c && !w.open.get(d)) bits |= 256 << d;
        return w.hands[1 - h].cell == c ? bits | 4096 : bits;
    }

    int barred(int h, int c) {
        if (!isThere(h) || !isCell(c)) return -5;
        if (far(w, h)[c] >= 0) return 0;
        int bits = 0;
        for (int t = 0; t < w.things.size(); t++) {
            World v = w.twin();
            Thing gone = v.things.get(t);
            if (!gone.lies() || gone.hand >= 0) continue;
            gone.x = -1;
            if (far(v, h)[c] >= 0) bits |= 1 << t;
        }
        return bits;
    }

    int thingTold(int t, int what) {
        if (!isThing(t)) return -5;
        Thing a = w.things.get(t);
        return switch (what) {
            case 0 -> a.kind;
            case 1 -> a.lies() ? a.y * 8 + a.x : -1;
            case 2 -> a.hand;
            case 3 -> a.side;
            case 4 -> sides(a.kind);
            case 5 -> weight(a.kind, a.wide);
            case 6 -> a.wide;
            default -> -7;
        };
    }

    int handTold(int h, int what) {
        if (!isHand(h)) return -5;
        Hand a = w.hands[h];
        return switch (what) {
            case 0 -> a.cell;
            case 1 -> a.thing;
            case 2 -> a.steps;
            case 3 -> a.program;
            case 4 -> a.next;
            case 5 -> a.blocked;
            default -> -7;
        };
    }

    int kindTold(int kind, int wide, int what) {
        if (kind < 0 || kind > 5 || wide < 1 || wide > 2) return -2;
        return switch (what) {
            case 0 -> sides(kind);
            case 1 -> weight(kind, wide);
            case 2 -> kind == 3 ? 1 : 0;
            case 3 -> turnsUp(kind) ? 1 : 0;
            default -> -2;
        };
    }

    int cellTold(int c) {
        if (!isCell(c)) return -5;
        if (wall[c]) return -10;
        if (shut(w, c)) return -11;
        for (int h = 0; h < 2; h++) if (w.hands[h].cell == c) return 100 + h;
        return least(w, c, -1);
    }

    int isOpen(int d) {
        if (d < 0 || d >= doorCell.size()) return -1;
        return w.open.get(d) ? 1 : 0;
    }

    int count(int what) {
        return switch (what) {
            case 0 -> w.tick;
            case 1 -> w.things.size();
            case 2 -> doorCell.size();
            case 3 -> programs.size();
            case 4 -> tape.length();
            case 5 -> strong;
            case 6 -> cases.size();
            case 7 -> rules.size();
            default -> -2;
        };
    }

    // programs

    int feed(long bytes, int n) {
        if (n < 1 || n > 8) return -2;
        if (tape.length() + n > 120) return -4;
        for (int i = n; i > 0; i--) tape.append((char) (bytes >> 8 * (i - 1) & 255));
        return tape.length();
    }

    /** All that may stand at the start of the text of an act, tried out: how much of the tape begins so. */
    private static boolean begins(String text) {
        int acts = 0;
        String left = text;
        while (!left.isEmpty()) {
            if (acts == 12) return false;
            int end = left.indexOf(';');
            String one = end < 0 ? left : left.substring(0, end);
            if (end >= 0 ? !isAct(one) : !isActBegun(one)) return false;
            left = end < 0 ? "" : left.substring(end + 1);
            acts++;
        }
        return true;
    }

    private static boolean isAct(String s) {
        if (s.equals("p")) return true;
        if (s.matches("t[0-9]{1,2}[nesw]")) return Integer.parseInt(s.substring(1, s.length() - 1)) <= 7;
        if (!s.matches("[gow][0-9]{1,2}")) return false;
        int n = Integer.parseInt(s.substring(1));
        return n <= (s.charAt(0) == 'g' ? 63 : s.charAt(0) == 'o' ? 3 : 99);
    }

    private static boolean isActBegun(String s) {
        if (s.isEmpty() || isAct(s) || s.matches("[gtow]")) return true;
        return s.matches("t[0-9]{1,2}") && isAct(s + "n");
    }

    int program() {
        if (programs.size() == 6) return -4;
        String text = tape.toString();
        tape = new StringBuilder();
        for (int i = 1; i <= text.length(); i++) {
            if (!begins(text.substring(0, i))) return -100 - (i - 1);
        }
        if (text.isEmpty() || !text.endsWith(";")) return -100 - text.length();
        List<Act> acts = new ArrayList<>();
        for (String one : text.split(";")) {
            String digits = one.replaceAll("[^0-9]", "");
            int side = one.charAt(0) == 't' ? "nesw".indexOf(one.charAt(one.length() - 1)) : 0;
            acts.add(new Act(one.charAt(0), digits.isEmpty() ? 0 : Integer.parseInt(digits), side));
        }
        programs.add(acts);
        return programs.size() - 1;
    }

    int actTold(int p, int i, int what) {
        if (!isProgram(p)) return -5;
        List<Act> acts = programs.get(p);
        if (what == 3) return acts.size();
        if (i < 0 || i >= acts.size() || what < 0 || what > 3) return -7;
        Act a = acts.get(i);
        return what == 0 ? "gtpow".indexOf(a.letter) : what == 1 ? a.number : a.side;
    }

    int judge(int h, int p, int what) {
        if (!isHand(h) || !isProgram(p)) return -5;
        if (what < -1 || what > 2) return -7;
        World v = w.twin();
        int[] end = played(v, h, p);
        return switch (what) {
            case -1 -> end[0];
            case 0 -> end[1];
            case 1 -> v.hands[h].steps - w.hands[h].steps;
            default -> v.hands[h].cell;
        };
    }

    int play(int h, int p) {
        if (!isHand(h) || !isProgram(p)) return -5;
        World v = w.twin();
        int[] end = played(v, h, p);
        if (end[1] != 0) return -10 - end[1];
        w = v;
        return w.hands[h].steps;
    }

    int start(int h, int p) {
        if (!isHand(h) || !isProgram(p)) return -5;
        Hand a = w.hands[h];
        if (a.program >= 0) return -3;
        a.program = p;
        a.next = 0;
        a.waited = 0;
        a.blocked = 0;
        return p;
    }

    int run(int n) {
        if (n < 1 || n > 100) return -2;
        if (w.tick + n > 5000) return -4;
        for (int i = 0; i < n; i++, w.tick++) for (int h = 0; h < 2; h++) tick(h);
        return w.tick;
    }

    private void tick(int h) {
        Hand a = w.hands[h];
        if (a.program < 0) return;
        List<Act> acts = programs.get(a.program);
        if (a.next == acts.size()) {
            a.program = -1;
            return;
        }
        Act act = acts.get(a.next);
        boolean over;
        if (act.letter == 'w') {
            over = ++a.waited >= Math.max(1, act.number);
        } else if (act.letter == 'g') {
            over = a.cell == act.number;
            if (!over) {
                int[] far = a.cell < 0 ? null : far(w, h);
                if (far == null || far[act.number] < 0) {
                    a.blocked++;
                } else {
                    walk(w, h, wayTo(w, h, far, act.number).get(1));
                    a.steps++;
                    a.blocked = 0;
                    over = a.cell == act.number;
                }
            }
        } else {
            over = act(w, h, act.letter, act.number, act.side) == 0;
            if (!over) a.blocked++;
        }
        if (!over) return;
        a.next++;
        a.waited = 0;
        a.blocked = 0;
    }

    int hangs(int n) {
        if (n < 1 || n > 99) return -2;
        for (Hand a : w.hands) if (a.program < 0 || a.blocked < n) return 0;
        return 1;
    }

    // plans

    int plan(int h, int aim, int to, int movable, int sheet) {
        if (!isThere(h) || !isThing(aim) || !isCell(to) || sheet < 0 || sheet > 3) return -5;
        if (sheets[sheet] == null) return -11;
        if (sheets[sheet].length > 5 || movable < 0 || movable > 255) return -2;
        for (long c : sheets[sheet]) if (c < 0 || c > 63) return -2;
        plan = null;
        asked = 0;
        if (thingTold(aim, 1) == to) {
            plan = new ArrayList<>();
            planFar = 0;
            return 0;
        }
        if (w.hands[h].thing >= 0 || w.things.get(aim).hand >= 0) return -6;
        for (int most = 1; most <= 2 && plan == null; most++) {
            seek(w.twin(), h, aim, to, movable, sheets[sheet], most, new ArrayList<>(), 0);
        }
        return plan == null ? -3 : plan.size();
    }

    private void seek(World v, int h, int aim, int to, int movable, long[] places, int left, List<Move> ahead, int gone) {
        for (int t = 0; t < v.things.size(); t++) {
            Thing a = v.things.get(t);
            List<Integer> goals = new ArrayList<>();
            if (t == aim) goals.add(to);
            else if (left > 1 && (movable >> t & 1) == 1 && a.lies() && a.hand < 0) {
                for (long c : places) if (a.y * 8 + a.x != c) goals.add((int) c);
            }
            for (int goal : goals) ask(v, h, t, goal, aim, to, movable, places, left, ahead, gone);
        }
    }

    private void ask(World v, int h, int t, int goal, int aim, int to, int movable, long[] places, int left,
            List<Move> ahead, int gone) {
        Thing a = v.things.get(t);
        List<Boolean> taken = new ArrayList<>();
        for (int c = 0; c < 64; c++) taken.add(!free(v, c, h, t));
        Rule rule = new Rule(t, goal, a.lies() ? a.y * 8 + a.x : -1, v.hands[h].cell, strong, taken);
        if (rules.contains(rule)) {
            uses++;
            return;
        }
        boolean can = false;
        for (int side = 0; side < 4; side++) {
            asked++;
            World then = v.twin();
            int way = moved(then, h, t, side, goal);
            if (way < 0) continue;
            can = true;
            List<Move> row = new ArrayList<>(ahead);
            row.add(new Move(t, side, goal));
            if (t != aim) {
                seek(then, h, aim, to, movable, places, left - 1, row, gone + way);
            } else if (plan == null || gone + way < planFar) {
                plan = row;
                planFar = gone + way;
            }
        }
        if (!can && rules.size() < 12) rules.add(rule);
    }

    /** How far (-1: it can't be); the world is as behind it. */
    private int moved(World v, int h, int t, int side, int goal) {
        Thing a = v.things.get(t);
        if (!a.lies() || (sides(a.kind) & 1 << side) == 0 || weight(a.kind, a.wide) > strong) return -1;
        int from = handFrom(a.y * 8 + a.x, side, a.wide), to = handFrom(goal, side, a.wide);
        if (from < 0 || to < 0) return -1;
        int empty = far(v, h)[from];
        if (empty < 0) return -1;
        v.hands[h].cell = from;
        int with = far(v, h, from, t, side)[to];
        if (with < 0) return -1;
        v.hands[h].cell = to;
        a.x = goal % 8;
        a.y = goal / 8;
        return empty + with;
    }

    int planned(int i, int what) {
        if (what == 3) return plan == null ? -3 : planFar;
        if (what < 0 || what > 3 || plan == null || i < 0 || i >= plan.size()) return -7;
        Move m = plan.get(i);
        return what == 0 ? m.thing : what == 1 ? m.side : m.cell;
    }

    int learnt(int what) {
        return what == 0 ? rules.size() : what == 1 ? uses : what == 2 ? asked : -2;
    }

    // cases

    int maybe(int t, int c, int share) {
        if (!isThing(t) || !isCell(c)) return -1;
        if (share < 1 || share > 99) return -2;
        if (!cases.isEmpty() && caseThing != t) return -3;
        if (cases.size() == 6) return -4;
        caseThing = t;
        cases.add(new int[] {c, share});
        return cases.size() - 1;
    }

    int sure() {
        int were = cases.size();
        cases.clear();
        return were;
    }

    int cases(int h, int p, int what) {
        if (!isHand(h) || !isProgram(p)) return -5;
        if (what < 0 || what > 3) return -2;
        int bits = 0, above = 0, below = 0, most = 0;
        for (int i = 0; i < cases.size(); i++) {
            int c = cases.get(i)[0];
            below += cases.get(i)[1];
            World v = w.twin();
            Thing t = v.things.get(caseThing);
            if (t.hand >= 0 || !canLie(v, caseThing, t.wide, c)) continue;
            t.x = c % 8;
            t.y = c / 8;
            if (played(v, h, p)[1] != 0) continue;
            bits |= 1 << i;
            above += cases.get(i)[1];
            most = Math.max(most, v.hands[h].steps - w.hands[h].steps);
        }
        if (above == 0) below = 1;
        for (int k = 2; k <= above; k++) {
            while (above % k == 0 && below % k == 0) {
                above /= k;
                below /= k;
            }
        }
        return what == 0 ? bits : what == 1 ? above : what == 2 ? below : most;
    }

    // images

    int image() {
        image = w.twin();
        return w.tick;
    }

    int back() {
        if (image == null) return -3;
        World since = w;
        w = image.twin();
        for (int t = w.things.size(); t < since.things.size(); t++) {
            Thing a = since.things.get(t).clone();
            a.x = -1;
            a.y = -1;
            a.hand = -1;
            a.side = -1;
            w.things.add(a);
        }
        while (w.open.size() < doorCell.size()) w.open.add(false);
        return w.tick;
    }

    // the host

    int sheet(int s, int sort, int n) {
        if (s < 0 || s > 3 || sort < -1 || sort > 2 || (sort >= 0 && n > 40)) return -2;
        if (sort >= 0 && n < 0) return -14;
        sheets[s] = sort < 0 ? null : new long[n];
        sorts[s] = sort;
        return 1;
    }

    int cell(int s, int i, int v) {
        if (s < 0 || s > 3) return -2;
        if (sheets[s] == null) return -11;
        if (i < 0 || i >= sheets[s].length) return -12;
        sheets[s][i] = sorts[s] == 0 ? (byte) v : sorts[s] == 1 ? (short) v : v;
        return 1;
    }

    int copy(int s, int i, int other, int j, int n) {
        if (s < 0 || s > 3 || other < 0 || other > 3) return -2;
        if (sheets[s] == null || sheets[other] == null) return -11;
        if (sorts[s] != sorts[other]) return -13;
        if (i < 0 || j < 0 || n < 0 || (long) i + n > sheets[s].length || (long) j + n > sheets[other].length) return -12;
        long[] were = sheets[s].clone();
        for (int k = 0; k < n; k++) sheets[other][j + k] = were[i + k];
        return n;
    }

    int walls(int s, int sort, int from, int n) {
        if (s < 0 || s > 3 || sort < 0 || sort > 2 || n < 0 || n > 40) return -2;
        if (sheets[s] == null) return -11;
        if (sorts[s] != sort) return -13;
        int could = 0;
        for (long k = from; k < (long) from + n; k++) {
            if (k < 0 || k >= sheets[s].length) return -12;
            if (wall((int) sheets[s][(int) k], 1) >= 0) could++;
        }
        return could;
    }

    int taken(int c, int kind) {
        if (kind < 0 || kind > 5) return -2;
        if (!isCell(c)) return -12;
        int t = least(w, c, -1);
        if (t >= 0) return isA(w.things.get(t).kind, kind) ? t : -13;
        return wall[c] || shut(w, c) ? -13 : -11;
    }
}
