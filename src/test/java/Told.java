/** All that an object tells, as numbers in a row: two objects that tell the same are taken to be in the same state. */
final class Told {
    private static final int MOST = 512;

    private final HandsAndWays x;
    private final int[] numbers = new int[MOST];
    private int size = 0;

    private Told(HandsAndWays x) {
        this.x = x;
    }

    /** Which number is the first one that differs (-1: none). The objects are used up by it. */
    static int firstUnlike(HandsAndWays one, HandsAndWays other) {
        Told a = all(one), b = all(other);
        for (int i = 0; i < MOST; i++) {
            if (a.numbers[i] != b.numbers[i]) return i;
        }
        return -1;
    }

    private static Told all(HandsAndWays x) {
        Told told = new Told(x);
        told.room();
        told.learntAndPlanned();
        told.programs();
        told.sheets();
        told.whatGoesOn();
        told.image();
        return told;
    }

    private void add(int n) {
        numbers[size++] = n;
    }

    private void room() {
        for (int c = 0; c < 64; c++) add(x.cellTold(c));
        for (int t = 0; t < x.count(1); t++) for (int what = 0; what < 7; what++) add(x.thingTold(t, what));
        hands();
        for (int d = 0; d < 4; d++) add(x.isOpen(d));
        for (int i = 0; i < 8; i++) add(x.count(i));
    }

    private void hands() {
        for (int h = 0; h < 2; h++) for (int what = 0; what < 6; what++) add(x.handTold(h, what));
    }

    private void learntAndPlanned() {
        for (int what = 0; what < 3; what++) add(x.learnt(what));
        for (int i = 0; i < 2; i++) for (int what = 0; what < 4; what++) add(x.planned(i, what));
    }

    /** Of the tape, too: it is read as a program. */
    private void programs() {
        for (int what = 0; what < 4; what++) add(x.cases(0, 0, what));
        add(x.program());
        for (int p = 0; p < 6; p++) add(x.actTold(p, 0, 3));
        int last = x.count(3) - 1;
        for (int i = 0; i < 3; i++) for (int what = 0; what < 3; what++) add(x.actTold(last, i, what));
    }

    /** A number that is a free cell leaves a wall there. */
    private void sheets() {
        for (int s = 0; s < 4; s++) for (int sort = 0; sort < 3; sort++) add(x.walls(s, sort, 0, 40));
        for (int c = 0; c < 64; c++) add(x.cellTold(c));
    }

    private void whatGoesOn() {
        add(x.run(2));
        hands();
    }

    private void image() {
        add(x.back());
        hands();
        for (int t = 0; t < x.count(1); t++) add(x.thingTold(t, 1));
        for (int d = 0; d < 4; d++) add(x.isOpen(d));
    }
}
