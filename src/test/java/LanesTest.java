/** Promises 1 to 8: a new object, lanes, step, part, slot, unslot, word, aside. */
public final class LanesTest {
    private static final Due due = new Due();
    private static final int MAX = Integer.MAX_VALUE, MIN = Integer.MIN_VALUE;

    private static void newObject() {
        due.promise(1);
        FlyerRoom x = new FlyerRoom();
        due.is("count(0)", x.count(0), 3);
        for (int i = 1; i <= 7; i++) due.is("count(" + i + ")", x.count(i), 0);
        for (int i = 0; i <= 7; i++) due.is("now(" + i + ")", x.now(i), i == 5 ? 3 : 0);
        for (int l = 0; l < 3; l++) {
            for (int i = 0; i <= 4; i++) due.is("lane(" + l + ", " + i + ")", x.lane(l, i), i == 0 ? 1 : 0);
            for (int c = 0; c < 12; c++) due.is("cell(" + l + ", " + c + ")", x.cell(l, c), 0);
        }
        for (int i = 0; i < 8; i++) {
            for (int what = 0; what <= 4; what++) due.is("voted", x.voted(i, what), 0);
        }
        due.is("sensed(0)", x.sensed(0), 0);
        due.is("sensed(1)", x.sensed(1), 0);
        due.is("fault()", x.fault(), 1);
        due.is("seal(0)", x.seal(0), 17 * 31);
        due.is("seal(1)", x.seal(1), 17 * 31);
        due.is("cause()", x.cause(), -5);
        due.is("near(100)", x.near(100), 0);
        due.is("from(0)", x.from(0), -3);
        due.is("from(1)", x.from(1), -3);
    }

    /** What is told of a new object but seen only as it flies: limits, drag, gust, K, M, kinds. */
    private static void newObjectFlies() {
        due.promise(1);
        FlyerRoom x = new FlyerRoom();
        x.step(0, 0, 5000, 0);
        x.step(9, 0, 0, 0);
        x.part(0, 0, 2);
        x.slot(0, 0, 2);
        due.is("fly(1)", x.fly(1), 100);
        due.is("now(1)", x.now(1), 90);
        due.is("fly(1)", x.fly(1), 100);
        due.is("now(1): 90 + 100 - 10 - 8100 / 100", x.now(1), 99);
        FlyerRoom y = new FlyerRoom();
        y.step(0, 0, -5000, 0);
        y.step(9, 0, 0, 0);
        y.part(0, 0, 2);
        y.slot(0, 0, 2);
        due.is("fly(1)", y.fly(1), -100);
        FlyerRoom z = Due.sayers(3);
        z.harm(0, 0, 1, 0, 0);
        z.fly(2);
        due.is("now(5)", z.now(5), 3);
        z.fly(1);
        due.is("now(5)", z.now(5), 2);
        z.fly(4);
        due.is("now(5)", z.now(5), 2);
        z.fly(1);
        due.is("now(5)", z.now(5), 3);
    }

    private static void lanes() {
        due.promise(2);
        FlyerRoom x = new FlyerRoom();
        int[] bad = {0, 5, -1, MAX, MIN};
        for (int n : bad) due.is("lanes(" + n + ")", x.lanes(n), -2);
        due.is("count(0)", x.count(0), 3);
        for (int n = 1; n <= 4; n++) {
            due.is("lanes(" + n + ")", x.lanes(n), 1);
            due.is("count(0)", x.count(0), n);
            due.is("now(5)", x.now(5), n);
            due.is("lane(n - 1, 0)", x.lane(n - 1, 0), 1);
            due.is("lane(n, 0)", x.lane(n, 0), -2);
        }
        x.image(0);
        x.fly(1);
        due.is("lanes(2)", x.lanes(2), -3);
        due.is("lanes(5)", x.lanes(5), -2);
        due.is("count(0)", x.count(0), 4);
        x.from(0);
        due.is("lanes(2)", x.lanes(2), 1);
    }

    private static void stepNumbers() {
        due.promise(3);
        FlyerRoom x = new FlyerRoom();
        int[][] bad = {{-1, 0, 1, 0}, {11, 0, 1, 0}, {MAX, 0, 1, 0}, {MIN, 0, 1, 0}, {0, -1, 0, 0}, {0, 12, 0, 0},
            {1, 0, 12, 0}, {1, 0, -1, 0}, {2, 0, 0, 12}, {3, 0, 0, -1}, {4, 12, 0, 0}, {5, 0, MAX, 0}, {6, 0, 0, MIN},
            {7, 0, 0, 0}, {7, 0, 21, 0}, {7, 12, 1, 0}, {8, 0, 2, 0}, {8, 0, -1, 0}, {8, -1, 0, 0}, {9, 0, 8, 0},
            {9, 0, -1, 0}, {9, 12, 0, 0}, {10, 0, 0, 0}, {10, 0, 21, 0}, {10, -1, 1, 0}};
        for (int[] s : bad) due.is("step " + s[0] + " " + s[1] + " " + s[2] + " " + s[3], x.step(s[0], s[1], s[2], s[3]), -2);
        due.is("count(1)", x.count(1), 0);
        int[][] good = {{0, 11, MIN, MAX}, {0, 0, MAX, -1}, {1, 11, 11, 11}, {2, 0, 0, 0}, {3, 1, 2, 3}, {4, 0, 11, 0},
            {5, 0, 0, 11}, {6, 0, 0, 0}, {7, 0, 1, MIN}, {7, 11, 20, 12}, {8, 0, 0, -1}, {8, 11, 1, 99}, {9, 0, 0, -1},
            {9, 11, 7, 12}, {10, 0, 1, MAX}, {10, 11, 20, -7}};
        for (int i = 0; i < good.length; i++) {
            int[] s = good[i];
            due.is("step " + s[0] + " " + s[1] + " " + s[2] + " " + s[3], x.step(s[0], s[1], s[2], s[3]), i);
        }
        for (int i = good.length; i < 60; i++) due.is("step", x.step(0, 0, 0, 0), i);
        due.is("step, full", x.step(0, 0, 0, 0), -4);
        due.is("step, bad ahead of full", x.step(11, 0, 0, 0), -2);
        x.fly(1);
        due.is("step, no ahead of full", x.step(0, 0, 0, 0), -3);
        due.is("step, bad ahead of no", x.step(0, 12, 0, 0), -2);
        due.is("count(1)", x.count(1), 60);
    }

    /** One lane runs these steps in a slot of so many ticks; what a cell is then. */
    private static FlyerRoom ran(int ticks, int[]... steps) {
        FlyerRoom x = new FlyerRoom();
        x.lanes(1);
        for (int[] s : steps) x.step(s[0], s[1], s[2], s[3]);
        x.part(0, 0, steps.length);
        x.slot(0, 0, ticks);
        x.fly(1);
        return x;
    }

    private static int[] s(int act, int a, int b, int c) {
        return new int[] {act, a, b, c};
    }

    private static void acts() {
        due.promise(3);
        due.is("SET", ran(9, s(0, 3, -7, 0)).cell(0, 3), -7);
        due.is("ADD wraps", ran(9, s(0, 0, MAX, 0), s(0, 1, 1, 0), s(1, 2, 0, 1)).cell(0, 2), MIN);
        due.is("LESS", ran(9, s(0, 0, 3, 0), s(0, 1, 10, 0), s(2, 2, 0, 1)).cell(0, 2), -7);
        due.is("TIMES wraps", ran(9, s(0, 0, 65536, 0), s(3, 1, 0, 0)).cell(0, 1), 0);
        due.is("BY cut", ran(9, s(0, 0, -7, 0), s(0, 1, 2, 0), s(4, 2, 0, 1)).cell(0, 2), -3);
        due.is("BY wraps", ran(9, s(0, 0, MIN, 0), s(0, 1, -1, 0), s(4, 2, 0, 1)).cell(0, 2), MIN);
        FlyerRoom byZero = ran(9, s(0, 0, 5, 0), s(0, 2, 8, 0), s(4, 2, 0, 1), s(0, 3, 1, 0));
        due.is("BY 0: the cell stays", byZero.cell(0, 2), 8);
        due.is("BY 0: no step behind it", byZero.cell(0, 3), 0);
        due.is("BY 0: the part fails", byZero.now(7), 1);
        due.is("LEAST", ran(9, s(0, 0, -5, 0), s(5, 2, 0, 1)).cell(0, 2), -5);
        due.is("GREATEST", ran(9, s(0, 0, -5, 0), s(6, 2, 0, 1)).cell(0, 2), 0);
        due.is("LEAP above 0", ran(9, s(0, 0, 1, 0), s(7, 0, 1, 0), s(0, 1, 5, 0), s(0, 2, 6, 0)).cell(0, 1), 0);
        due.is("LEAP, behind", ran(9, s(0, 0, 1, 0), s(7, 0, 1, 0), s(0, 1, 5, 0), s(0, 2, 6, 0)).cell(0, 2), 6);
        due.is("LEAP at 0", ran(9, s(7, 0, 1, 0), s(0, 1, 5, 0)).cell(0, 1), 5);
        due.is("LEAP below 0", ran(9, s(0, 0, -1, 0), s(7, 0, 1, 0), s(0, 1, 5, 0)).cell(0, 1), 5);
        due.is("LEAP beyond ends", ran(9, s(0, 0, 1, 0), s(7, 0, 20, 0), s(0, 1, 5, 0)).now(7), 0);
        // 3 is counted down to 0 by going back two steps: SET, SET, then three times LESS, ADD, AGAIN.
        int[][] loop = {s(0, 0, 3, 0), s(0, 1, 1, 0), s(2, 0, 0, 1), s(1, 2, 2, 1), s(10, 0, 2, 0)};
        due.is("AGAIN", ran(11, loop).cell(0, 2), 3);
        due.is("AGAIN, ticks just enough", ran(11, loop).now(7), 0);
        due.is("AGAIN, a tick too few", ran(10, loop).now(7), 1);
        due.is("AGAIN, what it did stays", ran(10, loop).cell(0, 2), 3);
        due.is("AGAIN before the beginning ends", ran(9, s(0, 0, 1, 0), s(10, 0, 20, 0), s(0, 1, 5, 0)).now(7), 0);
        due.is("AGAIN before the beginning", ran(9, s(0, 0, 1, 0), s(10, 0, 20, 0), s(0, 1, 5, 0)).cell(0, 1), 0);
        due.is("AGAIN at 0 goes on", ran(9, s(10, 0, 1, 0), s(0, 1, 5, 0), s(0, 2, 6, 0)).cell(0, 1), 5);
        due.is("AGAIN below 0 goes on", ran(9, s(0, 0, -1, 0), s(10, 0, 1, 0), s(0, 1, 5, 0)).cell(0, 1), 5);
        due.is("AGAIN at its first step without a tick left fails", ran(2, s(0, 0, 1, 0), s(10, 0, 1, 0)).now(7), 1);
        due.is("passed over steps take no tick", ran(3, s(0, 0, 1, 0), s(7, 0, 3, 0), s(0, 1, 1, 0), s(0, 1, 2, 0),
            s(0, 1, 3, 0), s(0, 2, 6, 0)).now(7), 0);
        due.is("SAY: the last counts", ran(9, s(0, 0, 1, 0), s(9, 0, 4, 0), s(0, 0, 2, 0), s(9, 0, 4, 0)).voted(4, 0), 2);
        due.is("SENSE without sensors", ran(9, s(0, 0, 9, 0), s(8, 0, 0, 0)).cell(0, 0), 0);
    }

    private static void parts() {
        due.promise(4);
        FlyerRoom x = new FlyerRoom();
        int[][] bad = {{-1, 0, 0}, {6, 0, 0}, {0, -1, 0}, {0, 0, 61}, {0, 61, 61}, {0, 5, 4}, {MAX, 0, 1}, {0, MIN, 1}};
        for (int[] p : bad) due.is("part " + p[0] + " " + p[1] + " " + p[2], x.part(p[0], p[1], p[2]), -2);
        due.is("part(0, 0, 0)", x.part(0, 0, 0), 1);
        due.is("part(5, 60, 60)", x.part(5, 60, 60), 1);
        due.is("part(5, 0, 60)", x.part(5, 0, 60), 1);
        for (int i = 0; i < 4; i++) x.step(0, i, 1, 0);
        x.part(2, 1, 3);
        x.slot(2, 0, 2);
        x.slot(3, 2, 1);
        x.fly(1);
        due.is("a step ahead of the part", x.cell(0, 0), 0);
        due.is("its first step", x.cell(0, 1), 1);
        due.is("its last step", x.cell(2, 2), 1);
        due.is("a step behind it", x.cell(0, 3), 0);
        due.is("now(7), an empty part among them", x.now(7), 0);
        due.is("part, behind FRAME 0", x.part(2, 3, 60), 1);
        x.fly(1);
        due.is("the part as told anew", x.cell(0, 3), 1);
        due.is("beyond the program it ends", x.now(7), 0);
    }

    private static void slots() {
        due.promise(5);
        FlyerRoom x = new FlyerRoom();
        int[][] bad = {{-1, 0, 1}, {6, 0, 1}, {0, -1, 1}, {0, 40, 1}, {0, 0, 0}, {0, 0, 41}, {0, MAX, MAX}, {0, 0, MIN}};
        for (int[] p : bad) due.is("slot " + p[0] + " " + p[1] + " " + p[2], x.slot(p[0], p[1], p[2]), -2);
        due.is("slot(0, 1, 40) goes beyond", x.slot(0, 1, 40), -3);
        due.is("slot(0, 39, 2) goes beyond", x.slot(0, 39, 2), -3);
        due.is("slot(0, 0, 40)", x.slot(0, 0, 40), 0);
        due.is("unslot()", x.unslot(), 1);
        due.is("slot(0, 10, 5)", x.slot(0, 10, 5), 0);
        due.is("slot(0, 14, 1) shares", x.slot(0, 14, 1), -3);
        due.is("slot(0, 9, 2) shares", x.slot(0, 9, 2), -3);
        due.is("slot(0, 5, 30) shares", x.slot(0, 5, 30), -3);
        due.is("slot(0, 15, 1)", x.slot(0, 15, 1), 1);
        due.is("slot(0, 9, 1)", x.slot(0, 9, 1), 2);
        due.is("slot(5, 39, 1)", x.slot(5, 39, 1), 3);
        for (int i = 4; i < 8; i++) due.is("slot", x.slot(0, i, 1), i);
        due.is("slot, full", x.slot(0, 20, 1), -4);
        due.is("slot, no ahead of full", x.slot(0, 10, 1), -3);
        due.is("slot, bad ahead of no", x.slot(6, 10, 1), -2);
        due.is("count(2)", x.count(2), 8);
        FlyerRoom y = new FlyerRoom();
        y.step(0, 0, 5, 0);
        y.step(9, 0, 0, 0);
        y.step(0, 0, 7, 0);
        y.step(9, 0, 0, 0);
        y.part(0, 0, 2);
        y.part(1, 2, 4);
        y.slot(0, 20, 2);
        y.slot(1, 0, 2);
        due.is("slots run by ticks, not as told", y.fly(1), 5);
        due.is("slot, behind FRAME 0", y.slot(1, 30, 2), 2);
        due.is("fly(1)", y.fly(1), 7);
        // Three parts told from the last to the first: cell 0 becomes (0 + 1) * 6 - 1.
        FlyerRoom z = new FlyerRoom();
        int[][] steps = {{0, 1, 1, 0}, {1, 0, 0, 1}, {0, 2, 6, 0}, {3, 0, 0, 2}, {2, 0, 0, 1}};
        for (int[] s : steps) z.step(s[0], s[1], s[2], s[3]);
        z.part(0, 0, 2);
        z.part(1, 2, 4);
        z.part(2, 4, 5);
        z.slot(2, 30, 9);
        z.slot(1, 20, 9);
        z.slot(0, 10, 9);
        z.fly(1);
        due.is("three slots by ticks", z.cell(1, 0), 5);
    }

    private static void unslot() {
        due.promise(6);
        FlyerRoom x = Due.sayers(3);
        due.is("fly(1)", x.fly(1), 0);
        due.is("voted(0, 1)", x.voted(0, 1), 1);
        x.slot(1, 5, 5);
        due.is("unslot()", x.unslot(), 2);
        due.is("unslot()", x.unslot(), 0);
        due.is("count(2)", x.count(2), 0);
        x.fly(1);
        due.is("voted(0, 1)", x.voted(0, 1), 0);
        due.is("slot(0, 0, 40)", x.slot(0, 0, 40), 0);
    }

    private static FlyerRoom flown(int lanes, int kind, int span, int[]... flips) {
        FlyerRoom x = Due.sayers(lanes);
        x.word(0, kind, span);
        for (int[] f : flips) x.harm(0, 0, f[0], 0, f[1]);
        x.fly(1);
        return x;
    }

    private static void words() {
        due.promise(7);
        FlyerRoom x = new FlyerRoom();
        int[][] bad = {{-1, 0, 0}, {8, 0, 0}, {0, -1, 0}, {0, 2, 0}, {0, 0, -1}, {0, 1, 100001}, {MAX, MAX, MAX}};
        for (int[] p : bad) due.is("word " + p[0] + " " + p[1] + " " + p[2], x.word(p[0], p[1], p[2]), -2);
        due.is("word(7, 1, 100000)", x.word(7, 1, 100000), 1);
        due.is("word(0, 0, 0)", x.word(0, 0, 0), 1);

        int[] one8 = {1, 3}, two8 = {2, 3}, one16 = {1, 4}, zero1 = {0, 0}, two2 = {2, 1};
        due.is("ALIKE: most", flown(3, 0, 100, one8).voted(0, 0), 0);
        due.is("ALIKE: unlike differs, whatever the span", flown(3, 0, 100, one8).now(6), 2);
        due.is("ALIKE: 8 twice", flown(3, 0, 0, one8, two8).voted(0, 0), 8);
        due.is("ALIKE: all unlike: no result", flown(3, 0, 0, one8, two2).voted(0, 1), 0);
        due.is("ALIKE: without a result none differs", flown(3, 0, 0, one8, two2).now(6), 0);
        due.is("ALIKE: half is too few", flown(4, 0, 0, one8, two8).voted(0, 1), 0);
        due.is("ALIKE: three of four", flown(4, 0, 0, one8).voted(0, 1), 1);
        due.is("MIDDLE of three", flown(3, 1, 100, one8, two2).voted(0, 0), 2);
        due.is("MIDDLE: within the span", flown(3, 1, 8, one8).now(6), 0);
        due.is("MIDDLE: more than the span", flown(3, 1, 7, one8).now(6), 2);
        due.is("MIDDLE of four: 0, 1, 2, 16", flown(4, 1, 20, zero1, two2, one16).voted(0, 0), 1);
        due.is("MIDDLE of two, cut", flown(2, 1, 5, zero1).voted(0, 0), 0);
        int[] zeroTop = {0, 31}, zeroLow = {0, 0};
        due.is("MIDDLE of two below 0, cut toward 0", flown(2, 1, 5, zeroTop, zeroLow).voted(0, 0), (MIN + 1L) / 2);
        int[] zeroBig = {0, 30}, oneBig = {1, 30};
        due.is("MIDDLE does not wrap", flown(2, 1, 5, zeroBig, oneBig).voted(0, 0), 1 << 30);
        int[] oneTop = {1, 31};
        due.is("nor does what is away", flown(3, 1, 5, oneTop).now(6), 2);
    }

    private static void severalWords() {
        due.promise(7);
        FlyerRoom x = new FlyerRoom();
        x.step(9, 0, 0, 0);
        x.step(9, 1, 1, 0);
        x.step(9, 2, 5, 0);
        x.part(0, 0, 3);
        x.slot(0, 0, 3);
        x.word(5, 1, 3);
        x.harm(0, 0, 0, 0, 0);
        x.harm(0, 0, 1, 2, 2);
        x.fly(1);
        due.is("each word for itself: 0", x.voted(0, 1), 1);
        due.is("each word for itself: 1", x.voted(1, 1), 1);
        due.is("each word for itself: 5", x.voted(5, 1), 1);
        due.is("each word for itself: 2", x.voted(2, 1), 0);
        due.is("who differs in any differs", x.now(6), 3);
        FlyerRoom y = Due.sayers(1);
        y.word(0, 1, 0);
        y.harm(0, 0, 0, 0, 4);
        due.is("MIDDLE of one", y.fly(1), 16);
        // Lanes 1 and 2 have 8 and 16 and say it; lane 0 leaps over its word.
        FlyerRoom z = new FlyerRoom();
        z.step(7, 1, 1, 0);
        z.step(9, 0, 0, 0);
        z.part(0, 0, 2);
        z.slot(0, 0, 2);
        z.word(0, 1, 4);
        z.harm(0, 0, 0, 1, 0);
        z.harm(0, 0, 1, 0, 3);
        z.harm(0, 0, 2, 0, 4);
        due.is("MIDDLE of those said alone", z.fly(1), 12);
        due.is("now(6)", z.now(6), 1);
    }

    private static void notSaid() {
        due.promise(7);
        // Lane 1 leaps over its word, for its cell 1 is 1.
        for (int kind = 0; kind <= 1; kind++) {
            FlyerRoom x = new FlyerRoom();
            x.step(7, 1, 1, 0);
            x.step(9, 0, 2, 0);
            x.part(0, 0, 2);
            x.slot(0, 0, 2);
            x.word(2, kind, 100);
            x.harm(0, 0, 1, 1, 0);
            x.fly(1);
            due.is("voted(2, 1)", x.voted(2, 1), 1);
            due.is("who did not say it differs", x.now(6), 2);
        }
        FlyerRoom y = new FlyerRoom();
        y.lanes(2);
        y.step(7, 1, 1, 0);
        y.step(9, 0, 2, 0);
        y.part(0, 0, 2);
        y.slot(0, 0, 2);
        y.harm(0, 0, 1, 1, 0);
        y.fly(1);
        due.is("one of two is not more than half", y.voted(2, 1), 0);
    }

    private static void aside() {
        due.promise(8);
        FlyerRoom x = Due.sayers(3);
        int[][] bad = {{0, 1}, {21, 1}, {1, 0}, {1, 51}, {-1, -1}, {MAX, MIN}};
        for (int[] p : bad) due.is("aside " + p[0] + " " + p[1], x.aside(p[0], p[1]), -2);
        due.is("aside(20, 50)", x.aside(20, 50), 1);
        due.is("aside(2, 3)", x.aside(2, 3), 1);
        x.harm(0, 0, 0, 0, 4);
        x.harm(0, 0, 0, 7, 0);
        x.fly(1);
        due.is("lane(0, 1)", x.lane(0, 1), 1);
        due.is("lane(0, 0)", x.lane(0, 0), 1);
        x.fly(1);
        due.is("lane(0, 1)", x.lane(0, 1), 2);
        due.is("lane(0, 0)", x.lane(0, 0), 0);
        due.is("lane(0, 2)", x.lane(0, 2), 0);
        x.fly(1);
        due.is("lane(0, 1), no longer in: it does not differ", x.lane(0, 1), 0);
        due.is("lane(0, 2)", x.lane(0, 2), 1);
        x.fly(1);
        due.is("cell(0, 0) stays", x.cell(0, 0), 16);
        due.is("cell(0, 7) stays", x.cell(0, 7), 1);
        x.fly(1);
        due.is("lane(0, 0)", x.lane(0, 0), 1);
        due.is("lane(0, 1)", x.lane(0, 1), 0);
        due.is("lane(0, 2)", x.lane(0, 2), 0);
        due.is("cell(0, 0) copied", x.cell(0, 0), 0);
        due.is("cell(0, 7) copied", x.cell(0, 7), 0);
    }

    private static void lastOneIn() {
        due.promise(8);
        FlyerRoom x = Due.sayers(2);
        x.word(0, 1, 0);
        x.aside(1, 1);
        x.harm(0, 0, 1, 0, 4);
        due.is("the middle of 0 and 16", x.fly(1), 8);
        due.is("both differ", x.now(6), 3);
        due.is("lane 0 goes", x.lane(0, 0), 0);
        due.is("lane 1 is the last", x.lane(1, 0), 1);
        due.is("its row", x.lane(1, 1), 1);
        x.fly(1);
        due.is("M = 1: back after one frame", x.lane(0, 0), 1);
        due.is("with lane 1's cells", x.cell(0, 0), 16);
        FlyerRoom y = Due.sayers(3);
        y.aside(1, 50);
        y.harm(0, 0, 0, 0, 4);
        y.fly(10);
        due.is("lane(0, 2)", y.lane(0, 2), 9);
        y.aside(1, 3);
        y.fly(1);
        due.is("M told anew, less than it was aside", y.lane(0, 0), 1);
    }

    public static void main(String[] args) {
        newObject();
        newObjectFlies();
        lanes();
        stepNumbers();
        acts();
        parts();
        slots();
        unslot();
        words();
        severalWords();
        notSaid();
        aside();
        lastOneIn();
        due.end();
    }
}
