/** Promises 27 to 34: fate, fates, box, unbox, cause, guess, clock, near. */
public final class ProofsTest {
    private static final Due due = new Due();
    private static final int MAX = Integer.MAX_VALUE, MIN = Integer.MIN_VALUE;

    private static void fateNumbers() {
        due.promise(27);
        FlyerRoom x = new FlyerRoom();
        int[][] bad = {{-1, 0, 0, 1, 0}, {3, 0, 0, 1, 0}, {0, -1, 0, 1, 0}, {0, 12, 0, 1, 0}, {0, 0, -1, 1, 0}, {0, 0, 32, 1, 0},
            {0, 0, 0, 0, 0}, {0, 0, 0, 21, 0}, {0, 0, 0, 1, -1}, {0, 0, 0, 1, 4}, {MAX, MAX, MAX, MAX, MAX}, {MIN, 0, 0, 1, 0}};
        for (int[] f : bad) due.is("fate " + f[0] + " " + f[1] + " " + f[2] + " " + f[3] + " " + f[4],
            x.fate(f[0], f[1], f[2], f[3], f[4]), -100);
        due.is("fate(2, 11, 31, 20, 0)", x.fate(2, 11, 31, 20, 0), 3);
    }

    private static void fates4(FlyerRoom x, int[] flip, int k, int... want) {
        for (int what = 0; what < 4; what++) {
            due.is("fate " + flip[0] + " " + flip[1] + " " + flip[2] + " " + k + " " + what,
                x.fate(flip[0], flip[1], flip[2], k, what), want[what]);
        }
    }

    private static void fate() {
        due.promise(27);
        FlyerRoom one = Due.sayers(1);
        fates4(one, new int[] {0, 0, 3}, 1, 2, 0, 8, -1);
        fates4(one, new int[] {0, 0, 20}, 5, 2, 0, 100, -1);
        fates4(one, new int[] {0, 1, 3}, 5, 3, -1, 0, -1);
        FlyerRoom three = Due.sayers(3);
        long before = three.digest();
        fates4(three, new int[] {1, 0, 3}, 2, 3, -1, 0, -1);
        fates4(three, new int[] {1, 0, 3}, 3, 1, -1, 0, 2);
        fates4(three, new int[] {1, 0, 3}, 20, 1, -1, 0, 2);
        due.is("all stays as it is", three.digest(), before);
        FlyerRoom set = new FlyerRoom();
        set.step(0, 0, 5, 0);
        set.step(9, 0, 0, 0);
        set.part(0, 0, 2);
        set.slot(0, 0, 2);
        fates4(set, new int[] {2, 0, 3}, 1, 0, -1, 0, -1);
        // Cells 2, 1, 0 hand on their number frame by frame, so a flip in cell 2 is said two frames later.
        FlyerRoom late = new FlyerRoom();
        late.lanes(1);
        late.step(9, 0, 0, 0);
        late.step(1, 0, 1, 3);
        late.step(1, 1, 2, 3);
        late.step(1, 2, 3, 3);
        late.part(0, 0, 4);
        late.slot(0, 0, 4);
        fates4(late, new int[] {0, 2, 4}, 2, 3, -1, 0, -1);
        fates4(late, new int[] {0, 2, 4}, 3, 2, 2, 16, -1);
        fates4(late, new int[] {0, 2, 4}, 20, 2, 2, 16, -1);
        fates4(late, new int[] {0, 2, 31}, 20, 2, 2, 100, -1);
    }

    private static void fateBesideFaults() {
        due.promise(27);
        // The fault comes in both flights, so the cell stays unlike behind it.
        FlyerRoom x = new FlyerRoom();
        x.harm(0, 0, 1, 5, 7);
        due.is("a fault that comes in both", x.fate(1, 5, 7, 1, 0), 3);
        // Without the flip lane 1 goes aside in frame 2, with it it does not: that does not show, it hides.
        FlyerRoom y = Due.sayers(3);
        y.harm(0, 0, 1, 0, 4);
        fates4(y, new int[] {1, 0, 4}, 3, 3, -1, 0, -1);
        // Put aside in the same frame with and without it: the row is alike, and so does not show.
        fates4(y, new int[] {1, 0, 5}, 3, 3, -1, 0, -1);
        // Put aside and back in with cells copied in both: the flip dies.
        fates4(y, new int[] {1, 0, 5}, 8, 0, -1, 0, -1);
        // The lane differs from frame 0 on by the flip, without it from frame 1 on: put aside a frame sooner.
        FlyerRoom z = Due.sayers(3);
        z.harm(3, 1, 1, 0, 0);
        fates4(z, new int[] {1, 0, 5}, 3, 1, -1, 0, 2);
        // A new program that begins in the flight beside reads the cell that the old one does not.
        FlyerRoom n = new FlyerRoom();
        n.lanes(1);
        n.part(0, 0, 1);
        n.slot(0, 0, 1);
        n.piece(9, 7, 0, 0);
        n.begin(2, n.seal(1));
        fates4(n, new int[] {0, 7, 0}, 2, 3, -1, 0, -1);
        fates4(n, new int[] {0, 7, 0}, 3, 2, 2, 1, -1);
        due.is("it has not begun", n.count(1), 0);
    }

    private static void fateOfOthers() {
        due.promise(27);
        // A flip in the lane aside dies as the cells are copied; before that it hides.
        FlyerRoom x = Due.sayers(3);
        x.harm(0, 0, 1, 0, 4);
        x.fly(3);
        due.is("lane(1, 0)", x.lane(1, 0), 0);
        due.is("fate, still aside", x.fate(1, 0, 0, 4, 0), 3);
        due.is("fate, back in", x.fate(1, 0, 0, 5, 0), 0);
        // That another lane is put aside by the flip is not that this lane shows.
        FlyerRoom y = Due.sayers(3);
        y.harm(0, 0, 1, 0, 4);
        fates4(y, new int[] {2, 0, 4}, 1, 2, 0, 16, -1);
        FlyerRoom z = Due.sayers(3);
        z.aside(1, 50);
        z.limit(0, 0, 0);
        z.harm(0, 0, 1, 0, 4);
        fates4(z, new int[] {2, 0, 4}, 1, 3, -1, 0, -1);
        // Rows and who is in count as well: cells are alike, but lane 0 is aside by it.
        fates4(z, new int[] {0, 0, 4}, 1, 3, -1, 0, -1);
    }

    private static void rowsAndLateAside() {
        due.promise(27);
        // The word is said, then the cell is set: cells are alike behind the frame, rows only behind the next.
        FlyerRoom x = new FlyerRoom();
        x.step(9, 0, 0, 0);
        x.step(0, 0, 0, 0);
        x.part(0, 0, 2);
        x.slot(0, 0, 2);
        due.is("rows are unlike", x.fate(1, 0, 4, 1, 0), 3);
        due.is("rows are alike again", x.fate(1, 0, 4, 2, 0), 0);
        // Without the flip lane 1 is put aside in frame 2, by the flip in frame 3, in which it is not without it.
        FlyerRoom y = Due.sayers(3);
        y.harm(0, 0, 1, 0, 4);
        y.harm(3, 1, 1, 0, 0);
        fates4(y, new int[] {1, 0, 4}, 3, 3, -1, 0, -1);
        fates4(y, new int[] {1, 0, 4}, 4, 1, -1, 0, 3);
    }

    private static void fatesOfCounter() {
        due.promise(28);
        // Cell 1 is set ahead of being read, cell 0 is said, the others are not used.
        FlyerRoom x = new FlyerRoom();
        x.lanes(1);
        x.step(0, 1, 1, 0);
        x.step(1, 0, 0, 1);
        x.step(9, 0, 0, 0);
        x.part(0, 0, 3);
        x.slot(0, 0, 3);
        int[] want = {32, 0, 32, 320};
        for (int fate = 0; fate < 4; fate++) due.is("fates(0, 3, " + fate + ")", x.fates(0, 3, fate), want[fate]);
        x.fly(5);
        for (int fate = 0; fate < 4; fate++) due.is("fates(0, 3, " + fate + "), later", x.fates(0, 3, fate), want[fate]);
    }

    private static void fates() {
        due.promise(28);
        FlyerRoom x = Due.sayers(3);
        int[][] bad = {{-1, 1, 0}, {3, 1, 0}, {0, 0, 0}, {0, 21, 0}, {0, 1, -1}, {0, 1, 4}, {MAX, MAX, MAX}};
        for (int[] f : bad) due.is("fates " + f[0] + " " + f[1] + " " + f[2], x.fates(f[0], f[1], f[2]), -2);
        long before = x.digest();
        int[][] told = {{2, 0, 0, 0, 384}, {3, 0, 32, 0, 352}, {20, 0, 32, 0, 352}};
        for (int[] t : told) {
            for (int fate = 0; fate < 4; fate++) due.is("fates(1, " + t[0] + ", " + fate + ")", x.fates(1, t[0], fate), t[fate + 1]);
        }
        due.is("all stays as it is", x.digest(), before);
        FlyerRoom y = Due.sayers(1);
        due.is("fates(0, 1, 2), all 32 bits reach", y.fates(0, 1, 2), 32);
        y.limit(0, 0, 100);
        due.is("below 0 is cut: bit 31 hides", y.fates(0, 1, 2), 31);
        y.limit(0, -1000, 3);
        due.is("0 said against 1, 2, 3, cut ones and -1000", y.fates(0, 1, 2), 32);
        y.limit(0, 0, 0);
        due.is("fates(0, 1, 2), nothing moves", y.fates(0, 1, 2), 0);
        due.is("fates(0, 1, 3)", y.fates(0, 1, 3), 384);
    }

    private static void box() {
        due.promise(29);
        FlyerRoom x = new FlyerRoom();
        int[] bad = {-1001, 1001, MAX, MIN};
        for (int word : bad) due.is("box(" + word + ")", x.box(word), -2);
        due.is("box(-1000)", x.box(-1000), 1);
        due.is("box(1000)", x.box(1000), 2);
        for (int i = 3; i <= 10; i++) due.is("box(0)", x.box(0), i);
        due.is("box, full", x.box(0), -4);
        due.is("box, bad ahead of full", x.box(1001), -2);
        due.is("count(7)", x.count(7), 10);
        due.promise(30);
        due.is("unbox()", x.unbox(), 10);
        due.is("unbox()", x.unbox(), 0);
        due.is("count(7)", x.count(7), 0);
        due.is("box(5)", x.box(5), 1);
    }

    private static int causeOf(FlyerRoom x, int... words) {
        x.unbox();
        for (int word : words) x.box(word);
        return x.cause();
    }

    private static void cause() {
        due.promise(31);
        FlyerRoom one = Due.sayers(1);
        long before = one.digest();
        due.is("cause, empty", causeOf(one), -5);
        due.is("cause 0", causeOf(one, 0), -5);
        due.is("cause 0 0", causeOf(one, 0, 0), -5);
        due.is("cause 8", causeOf(one, 8), 3);
        due.is("cause 8 8", causeOf(one, 8, 8), 3);
        due.is("cause 0 8", causeOf(one, 0, 8), 100003);
        due.is("cause 0 8 0", causeOf(one, 0, 8, 0), -1);
        due.is("cause 8 0", causeOf(one, 8, 0), -1);
        due.is("cause 100, the first that the limit brings there", causeOf(one, 100), 7);
        due.is("cause -100", causeOf(one, -100), 31);
        due.is("cause of ten", causeOf(one, 0, 0, 0, 0, 0, 0, 0, 0, 0, 1), 900000);
        due.is("cause of 9, no single flip", causeOf(one, 9), -1);
        one.unbox();
        due.is("all stays as it is", one.digest(), before);
        // The middle of two: half of what is flipped in the first lane.
        FlyerRoom two = Due.sayers(2);
        two.word(0, 1, 100000);
        due.is("cause 8, half of 16", causeOf(two, 8), 4);
        due.is("cause 0 8", causeOf(two, 0, 8), 100004);
        // Lane 0 is aside: only lane 1 says anything.
        FlyerRoom three = new FlyerRoom();
        three.lanes(2);
        three.step(9, 5, 0, 0);
        three.part(0, 0, 1);
        three.slot(0, 0, 1);
        three.aside(1, 50);
        three.harm(3, 0, 0, 0, 0);
        three.fly(1);
        due.is("lane(0, 0)", three.lane(0, 0), 0);
        due.is("cause 64: lane 1, cell 5, bit 6", causeOf(three, 64), 10506);
        due.is("cause 0 0 64", causeOf(three, 0, 0, 64), 210506);
        // A fault is due beside the flip: together they give the word.
        FlyerRoom due2 = Due.sayers(1);
        due2.harm(0, 1, 0, 0, 0);
        due.is("cause 0 3 3", causeOf(due2, 0, 3, 3), 100001);
        due.is("cause 0 1, the fault alone", causeOf(due2, 0, 1), -5);
        due.is("cause 2 3", causeOf(due2, 2, 3), 1);
    }

    private static void causeByNewProgram() {
        due.promise(31);
        FlyerRoom x = new FlyerRoom();
        x.lanes(1);
        x.part(0, 0, 1);
        x.slot(0, 0, 1);
        x.piece(9, 7, 0, 0);
        x.begin(2, x.seal(1));
        due.is("cause 0 0 1: a cell that only the new program reads", causeOf(x, 0, 0, 1), 700);
        due.is("cause 0 0 0 4", causeOf(x, 0, 0, 0, 4), 300702);
        // A flip that leads to a leap and so to no word: the mover's word stays.
        FlyerRoom y = new FlyerRoom();
        y.lanes(1);
        y.step(0, 1, 1, 0);
        y.step(1, 0, 0, 1);
        y.step(7, 4, 1, 0);
        y.step(9, 0, 0, 0);
        y.part(0, 0, 4);
        y.slot(0, 0, 4);
        due.is("cause 1 2 3", causeOf(y, 1, 2, 3), -5);
        due.is("cause 1 2 2: leap", causeOf(y, 1, 2, 2), 200400);
        due.is("cause 1 4 5: the count by a bit", causeOf(y, 1, 4, 5), 100001);
    }

    /** Whatever way a step reads a cell, a flip of that cell is found. */
    private static void causeByEveryAct() {
        due.promise(31);
        int[][] acts = {{1, 2, 4, 5, 8}, {1, 2, 5, 4, 8}, {2, 2, 4, 5, 8}, {3, 2, 4, 6, 8}, {3, 2, 6, 4, 8}, {4, 2, 4, 6, 8},
            {6, 2, 4, 5, 8}, {6, 2, 5, 4, 8}};
        for (int[] a : acts) {
            FlyerRoom x = new FlyerRoom();
            x.lanes(1);
            x.step(0, 6, 1, 0);
            x.step(a[0], a[1], a[2], a[3]);
            x.step(9, 2, 0, 0);
            x.part(0, 0, 3);
            x.slot(0, 0, 3);
            due.is("act " + a[0] + " " + a[2] + " " + a[3], causeOf(x, a[4]), 403);
            due.is("act " + a[0] + ", bits that reach", x.fates(0, 1, 2) >= 31 ? 1 : 0, 1);
        }
        FlyerRoom least = new FlyerRoom();
        least.lanes(1);
        least.step(5, 2, 4, 5);
        least.step(9, 2, 0, 0);
        least.part(0, 0, 2);
        least.slot(0, 0, 2);
        due.is("LEAST, below 0", causeOf(least, -100), 431);
        FlyerRoom again = new FlyerRoom();
        again.lanes(1);
        again.step(0, 3, 1, 0);
        again.step(1, 2, 2, 3);
        again.step(9, 2, 0, 0);
        again.step(2, 4, 4, 3);
        again.step(10, 4, 3, 0);
        again.part(0, 0, 5);
        again.slot(0, 0, 40);
        due.is("2: the sum had 1", causeOf(again, 2), 200);
        due.is("4: AGAIN for four rounds", causeOf(again, 4), 402);
    }

    private static void guess() {
        due.promise(32);
        FlyerRoom x = new FlyerRoom();
        int[][] bad = {{-1, 0}, {2, 0}, {0, -1}, {0, 3}, {MAX, MAX}, {MIN, MIN}};
        for (int[] g : bad) due.is("guess " + g[0] + " " + g[1], x.guess(g[0], g[1]), -2000000000);
        due.is("guess(0, 0), no sensor", x.guess(0, 0), -2100000000);
        x.sensor(1, 0, 0, 4);
        due.is("guess(0, 2), none of this sort", x.guess(0, 2), -2100000000);
        x.body(100, 7);
        due.is("guess(1, 0)", x.guess(1, 0), 3);
        due.is("guess(1, 1)", x.guess(1, 1), 11);
        due.is("guess(1, 2)", x.guess(1, 2), 0);
        x.sensor(0, 0, 0, 0);
        x.sensor(0, 20, 0, 0);
        due.is("two apart: the least set", x.guess(0, 0), 100);
        due.is("guess(0, 1)", x.guess(0, 1), 100);
        due.is("guess(0, 2): the others of its sort", x.guess(0, 2), 4);
        x.sensor(0, 25, 0, 5);
        due.is("two that touch are more", x.guess(0, 0), 120);
        due.is("guess(0, 1)", x.guess(0, 1), 120);
        due.is("guess(0, 2)", x.guess(0, 2), 2);
        x.sensor(0, 10, 0, 10);
        due.is("three: 120 .. 120", x.guess(0, 0), 120);
        due.is("guess(0, 2)", x.guess(0, 2), 2);
        x.sensor(0, 300, 0, 1000);
        due.is("four", x.guess(0, 2), 2);
        due.is("as at (c), nothing changes", x.sensed(0), 0);
    }

    private static void guessTold() {
        due.promise(32);
        FlyerRoom x = new FlyerRoom();
        x.sensor(0, 0, 16, 3);
        x.body(1000, 0);
        x.fly(1);
        x.harm(2, 1, 0, 0, 0);
        due.is("990 + 1 - 3", x.guess(0, 0), 988);
        due.is("990 + 1 + 3", x.guess(0, 1), 994);
        x.fly(1);
        due.is("a stuck one: what it told last", x.guess(0, 0), 997);
        FlyerRoom y = new FlyerRoom();
        y.sensor(0, 500, 0, 2);
        y.harm(2, 0, 0, 0, 0);
        due.is("a fault not come yet", y.guess(0, 0), 498);
        y.fly(1);
        due.is("it never told", y.guess(0, 1), 2);
        // Six sensors in three pairs: of like many the least set.
        FlyerRoom z = new FlyerRoom();
        int[] offsets = {30, 20, 10, 10, 20, 30};
        for (int offset : offsets) z.sensor(0, offset, 0, 1);
        due.is("pairs {2, 3} is 12, {1, 4} is 18, {0, 5} is 33", z.guess(0, 2), 63 - 12);
        due.is("guess(0, 0)", z.guess(0, 0), 9);
        due.is("guess(0, 1)", z.guess(0, 1), 11);
    }

    private static void clock() {
        due.promise(33);
        FlyerRoom x = new FlyerRoom();
        int[][] bad = {{-1, 0, 0}, {3, 0, 0}, {0, -1000001, 0}, {0, 1000001, 0}, {0, 0, -1001}, {0, 0, 1001}, {MAX, MAX, MAX}};
        for (int[] c : bad) due.is("clock " + c[0] + " " + c[1] + " " + c[2], x.clock(c[0], c[1], c[2]), -2);
        due.is("near(0)", x.near(0), 0);
        due.is("clock(0, 1000000, 1000)", x.clock(0, 1000000, 1000), 1);
        due.is("clock(2, -1000000, -1000)", x.clock(2, -1000000, -1000), 1);
        due.is("near(0)", x.near(0), 2000000);
        // 1001000, 0, -1001000: the middle is 0, and each comes half of the way.
        due.is("near(1)", x.near(1), 1001000);
        due.is("near(1), nothing changed", x.near(1), 1001000);
        due.is("clock(0, 0, 0)", x.clock(0, 0, 0), 1);
        due.is("near(0)", x.near(0), 1000000);
    }

    private static void near() {
        due.promise(34);
        FlyerRoom x = new FlyerRoom();
        int[] bad = {-1, 101, MAX, MIN};
        for (int n : bad) due.is("near(" + n + ")", x.near(n), -2);
        x.lanes(2);
        x.clock(0, 7, 0);
        x.clock(1, -10, 0);
        // The middle of 7 and -10 is -1 (cut); 7 lacks -8, so 3; -10 lacks 9, so -6.
        due.is("near(1)", x.near(1), 9);
        // -1 again: 3 - 2 is 1, -6 + 2 is -4.
        due.is("near(2)", x.near(2), 5);
        due.is("near(100)", x.near(100) <= 5 ? 1 : 0, 1);
        x.clock(0, 0, 10);
        x.clock(1, 0, -10);
        // 10 and -10 become 5 and -5; then 15, -15: 8 (7, cut, is taken off) and -8.
        due.is("near(1), rates first", x.near(1), 10);
        due.is("near(2)", x.near(2), 16);
        x.lanes(1);
        due.is("near(5), one lane", x.near(5), 0);
        x.lanes(4);
        x.clock(0, 0, 0);
        x.clock(1, 100, 0);
        x.clock(2, 40, 0);
        x.clock(3, 61, 0);
        // The middle is 50 (101 by 2): 25, 75, 45, 56.
        due.is("near(1), four lanes", x.near(1), 50);
        x.lanes(3);
        x.clock(0, 1, 0);
        x.clock(1, 2, 0);
        x.clock(2, 6, 0);
        // 1 lacks 1, half of which is cut to 0; 6 becomes 4.
        due.is("near(1), 1 and 2 and 4", x.near(1), 3);
    }

    public static void main(String[] args) {
        fateNumbers();
        fate();
        fateBesideFaults();
        fateOfOthers();
        rowsAndLateAside();
        fates();
        fatesOfCounter();
        box();
        cause();
        causeByNewProgram();
        causeByEveryAct();
        guess();
        guessTold();
        clock();
        near();
        due.end();
    }
}
