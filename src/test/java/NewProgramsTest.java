/** Promises 23 to 26: piece, leave, seal, begin. */
public final class NewProgramsTest {
    private static final Due due = new Due();
    private static final int MAX = Integer.MAX_VALUE, MIN = Integer.MIN_VALUE;

    /** The seal, reckoned from the document's words. */
    private static int sealOf(int[]... steps) {
        int h = 17;
        for (int[] s : steps) {
            for (int v : s) h = 31 * h + v;
        }
        return 31 * h + steps.length;
    }

    private static int[] s(int act, int a, int b, int c) {
        return new int[] {act, a, b, c};
    }

    /** Three lanes that say 3; beside stands a program that says 9. */
    private static FlyerRoom two() {
        FlyerRoom x = new FlyerRoom();
        x.step(0, 0, 3, 0);
        x.step(9, 0, 0, 0);
        x.part(0, 0, 2);
        x.slot(0, 0, 2);
        x.piece(0, 0, 9, 0);
        x.piece(9, 0, 0, 0);
        return x;
    }

    private static void piece() {
        due.promise(23);
        FlyerRoom x = new FlyerRoom();
        int[][] bad = {{-1, 0, 1, 0}, {11, 0, 1, 0}, {0, 12, 0, 0}, {1, 0, 12, 0}, {1, 0, 0, 12}, {7, 0, 0, 0}, {8, 0, 2, 0},
            {9, 0, 8, 0}, {10, 0, 21, 0}, {MAX, MIN, MAX, MIN}};
        for (int[] p : bad) due.is("piece " + p[0] + " " + p[1] + " " + p[2] + " " + p[3], x.piece(p[0], p[1], p[2], p[3]), -2);
        due.is("count(6)", x.count(6), 0);
        for (int i = 1; i <= 60; i++) due.is("piece", x.piece(0, 0, i, 0), i);
        due.is("piece, full", x.piece(0, 0, 0, 0), -4);
        due.is("piece, bad ahead of full", x.piece(0, 12, 0, 0), -2);
        due.is("count(6)", x.count(6), 60);
        due.is("count(1)", x.count(1), 0);
        FlyerRoom y = new FlyerRoom();
        y.fly(1);
        due.is("piece behind FRAME 0", y.piece(0, 0, 0, 0), 1);
    }

    private static void leave() {
        due.promise(24);
        FlyerRoom x = two();
        x.begin(0, x.seal(1));
        due.is("leave()", x.leave(), 2);
        due.is("leave()", x.leave(), 0);
        due.is("count(6)", x.count(6), 0);
        due.is("none is due", x.fly(1), 3);
        FlyerRoom y = two();
        y.begin(0, y.seal(1));
        due.is("fly(1)", y.fly(1), 9);
        due.is("piece behind the old one that stands beside", y.piece(0, 0, 1, 0), 3);
        due.is("count(1)", y.count(1), 2);
        due.is("leave(): the old one that stood beside", y.leave(), 3);
        due.is("fly(1)", y.fly(1), 9);
    }

    private static void seal() {
        due.promise(25);
        FlyerRoom x = two();
        int[] bad = {-1, 2, MAX, MIN};
        for (int which : bad) due.is("seal(" + which + ")", x.seal(which), 0);
        due.is("seal(0)", x.seal(0), sealOf(s(0, 0, 3, 0), s(9, 0, 0, 0)));
        due.is("seal(1)", x.seal(1), sealOf(s(0, 0, 9, 0), s(9, 0, 0, 0)));
        x.piece(10, 11, 20, -77);
        due.is("seal(1), c as told", x.seal(1), sealOf(s(0, 0, 9, 0), s(9, 0, 0, 0), s(10, 11, 20, -77)));
        x.leave();
        due.is("seal(1), no steps", x.seal(1), 527);
    }

    private static void begin() {
        due.promise(26);
        FlyerRoom x = two();
        int right = x.seal(1);
        int[] bad = {-1, 10000, MAX, MIN};
        for (int frame : bad) due.is("begin(" + frame + ", right)", x.begin(frame, right), -2);
        due.is("begin, bad ahead of no", x.begin(-1, right + 1), -2);
        due.is("begin(0, wrong)", x.begin(0, right + 1), -3);
        due.is("begin(0, the old one's)", x.begin(0, x.seal(0)), -3);
        due.is("begin(9999, right)", x.begin(9999, right), 1);
        due.is("begin(2, right)", x.begin(2, right), 1);
        due.is("fly(2)", x.fly(2), 3);
        due.is("count(6)", x.count(6), 2);
        due.is("begin(1, right), gone", x.begin(1, right), -3);
        due.is("fly(1), begun", x.fly(1), 9);
        due.is("seal(0)", x.seal(0), right);
        due.is("seal(1): the old one", x.seal(1), sealOf(s(0, 0, 3, 0), s(9, 0, 0, 0)));
        due.is("fly(50), it begins once", x.fly(50), 9);
        due.is("begin(53, the old one's)", x.begin(53, x.seal(1)), 1);
        due.is("fly(1)", x.fly(1), 3);
        due.is("begin at the next frame", x.begin(54, x.seal(1)), 1);
        due.is("begin, told anew", x.begin(56, x.seal(1)), 1);
        due.is("fly(2)", x.fly(2), 3);
        due.is("fly(1)", x.fly(1), 9);
        due.is("what was told ahead does not come again", x.fly(100), 9);
    }

    private static void beginMore() {
        due.promise(26);
        FlyerRoom x = two();
        x.begin(1, x.seal(1));
        due.is("a wrong seal changes nothing", x.begin(0, 1), -3);
        due.is("fly(1)", x.fly(1), 3);
        due.is("fly(1)", x.fly(1), 9);
        FlyerRoom y = new FlyerRoom();
        y.step(0, 0, 3, 0);
        y.step(9, 0, 0, 0);
        y.part(0, 0, 2);
        y.slot(0, 0, 2);
        due.is("begin of no steps", y.begin(1, 527), 1);
        due.is("fly(1)", y.fly(1), 3);
        y.fly(1);
        due.is("voted(0, 1)", y.voted(0, 1), 0);
        due.is("count(1)", y.count(1), 0);
        due.is("count(6)", y.count(6), 2);
        due.is("parts stay: no step is left to fail", y.now(7), 0);
        FlyerRoom z = two();
        z.fly(9);
        due.is("begin(8, ..), gone", z.begin(8, z.seal(1)), -3);
        due.is("begin(9, ..)", z.begin(9, z.seal(1)), 1);
    }

    public static void main(String[] args) {
        piece();
        leave();
        seal();
        begin();
        beginMore();
        due.end();
    }
}
