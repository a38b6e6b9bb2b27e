/** Promises 16 to 22: fly, now, cell, lane, voted, sensed, harm. */
public final class FlyingTest {
    private static final Due due = new Due();
    private static final int MAX = Integer.MAX_VALUE, MIN = Integer.MIN_VALUE;

    private static void fly() {
        due.promise(16);
        FlyerRoom x = new FlyerRoom();
        int[] bad = {0, 101, -1, MAX, MIN};
        for (int n : bad) due.is("fly(" + n + ")", x.fly(n), -2000);
        due.is("now(4)", x.now(4), 0);
        due.is("fly(1)", x.fly(1), 0);
        due.is("fly(100)", x.fly(100), 0);
        due.is("now(4)", x.now(4), 101);
        // A counter: cell 0 goes up by 3 a frame and is said.
        FlyerRoom y = new FlyerRoom();
        y.step(0, 1, 3, 0);
        y.step(1, 0, 0, 1);
        y.step(9, 0, 0, 0);
        y.part(0, 0, 3);
        y.slot(0, 0, 3);
        due.is("fly(1)", y.fly(1), 3);
        due.is("fly(9)", y.fly(9), 30);
        due.is("fly(100), at the limit", y.fly(100), 100);
        due.is("cell(2, 0)", y.cell(2, 0), 330);
        y.unslot();
        due.is("without a result it is what it was", y.fly(1), 100);
        due.is("fly at many frames", flyFar(), 51100);
    }

    private static int flyFar() {
        FlyerRoom x = new FlyerRoom();
        for (int i = 0; i < 511; i++) x.fly(100);
        return x.now(4);
    }

    private static void now() {
        due.promise(17);
        FlyerRoom x = Due.sayers(3);
        int[] bad = {-1, 8, MAX, MIN};
        for (int what : bad) due.is("now(" + what + ")", x.now(what), -2000000);
        x.body(100, 20);
        x.harm(0, 0, 2, 0, 5);
        Due.write(x, "2");
        x.fly(1);
        due.is("now(0): 100 + 6", x.now(0), 106);
        due.is("now(1): 20 - 10 - 4", x.now(1), 6);
        due.is("now(2)", x.now(2), 0);
        due.is("now(3)", x.now(3), 2);
        due.is("now(4)", x.now(4), 1);
        due.is("now(5)", x.now(5), 3);
        due.is("now(6)", x.now(6), 4);
        due.is("now(7)", x.now(7), 0);
        x.fly(2);
        due.is("now(5)", x.now(5), 2);
        x.fly(1);
        due.is("now(6), who is aside does not differ", x.now(6), 0);
        // A part that fails twice in each of three lanes.
        FlyerRoom y = new FlyerRoom();
        y.step(0, 0, 1, 0);
        y.step(0, 0, 1, 0);
        y.part(0, 0, 2);
        y.slot(0, 0, 1);
        y.slot(0, 1, 1);
        y.slot(0, 2, 2);
        y.fly(1);
        due.is("now(7)", y.now(7), 6);
        y.unslot();
        y.fly(1);
        due.is("now(7), of the last frame alone", y.now(7), 0);
    }

    private static void cell() {
        due.promise(18);
        FlyerRoom x = new FlyerRoom();
        x.step(0, 11, -5, 0);
        x.step(0, 0, 6, 0);
        x.part(0, 0, 2);
        x.slot(0, 0, 2);
        x.fly(1);
        due.is("cell(2, 11)", x.cell(2, 11), -5);
        due.is("cell(0, 0)", x.cell(0, 0), 6);
        int[][] bad = {{-1, 0}, {3, 0}, {0, -1}, {0, 12}, {MAX, MAX}, {MIN, MIN}};
        for (int[] c : bad) due.is("cell " + c[0] + " " + c[1], x.cell(c[0], c[1]), 0);
    }

    private static void lane() {
        due.promise(19);
        FlyerRoom x = Due.sayers(3);
        int[][] bad = {{-1, 0}, {3, 0}, {0, -1}, {0, 5}, {MAX, MAX}, {MIN, 0}};
        for (int[] l : bad) due.is("lane " + l[0] + " " + l[1], x.lane(l[0], l[1]), -2);
        // A slot that is long enough for a slow lane, too.
        x.unslot();
        x.slot(0, 0, 2);
        x.harm(3, 0, 1, 0, 0);
        x.harm(4, 1, 2, 0, 0);
        x.fly(2);
        due.is("lane(1, 1)", x.lane(1, 1), 2);
        due.is("lane(1, 3)", x.lane(1, 3), 8);
        due.is("lane(1, 4)", x.lane(1, 4), 0);
        due.is("lane(2, 4)", x.lane(2, 4), 9);
        due.is("lane(2, 3)", x.lane(2, 3), 0);
        x.fly(3);
        due.is("lane(1, 0)", x.lane(1, 0), 0);
        due.is("lane(1, 2)", x.lane(1, 2), 2);
        due.is("MUTE goes by while it is aside", x.lane(1, 3), 5);
        x.fly(5);
        due.is("lane(1, 3)", x.lane(1, 3), 0);
        due.is("lane(2, 4)", x.lane(2, 4), 1);
    }

    private static void voted() {
        due.promise(20);
        FlyerRoom x = Due.sayers(3);
        int[][] bad = {{-1, 0}, {8, 0}, {0, -1}, {0, 5}, {MAX, MAX}, {MIN, MIN}};
        for (int[] v : bad) due.is("voted " + v[0] + " " + v[1], x.voted(v[0], v[1]), -2000000000);
        x.harm(1, 0, 0, 0, 6);
        x.fly(1);
        due.is("voted(0, 0)", x.voted(0, 0), 64);
        due.is("voted(0, 1)", x.voted(0, 1), 1);
        due.is("voted(0, 2)", x.voted(0, 2), 64);
        due.is("voted(0, 4)", x.voted(0, 4), 0);
        due.is("voted(7, 1)", x.voted(7, 1), 0);
        x.word(0, 1, 0);
        due.is("the kind told later changes nothing", x.voted(0, 0), 64);
        x.word(0, 0, 0);
        x.harm(3, 1, 1, 0, 0);
        x.fly(1);
        due.is("64 and 0 of two: no result", x.voted(0, 1), 0);
        due.is("voted(0, 0) without a result", x.voted(0, 0), 0);
        due.is("voted(0, 2) is said all the same", x.voted(0, 2), 64);
        due.is("voted(0, 3): a mute one says nothing", x.voted(0, 3), 0);
        due.is("the mover's word stays", x.now(2), 64);
        x.unslot();
        x.fly(1);
        due.is("voted(0, 2): nothing said", x.voted(0, 2), 0);
        FlyerRoom y = Due.sayers(4);
        due.is("voted(0, 5), four lanes", y.voted(0, 5), 0);
        due.is("voted(0, 6)", y.voted(0, 6), -2000000000);
        FlyerRoom z = Due.sayers(3);
        z.harm(0, 0, 1, 0, 6);
        z.fly(4);
        due.is("a lane aside says nothing", z.voted(0, 3), 0);
        due.is("though its cell is there", z.cell(1, 0), 64);
    }

    private static void sensed() {
        due.promise(21);
        FlyerRoom x = new FlyerRoom();
        int[] bad = {-1, 2, MAX, MIN};
        for (int sort : bad) due.is("sensed(" + sort + ")", x.sensed(sort), -2000000000);
        x.sensor(0, 1, 0, 0);
        x.sensor(1, 2, 0, 0);
        x.body(50, 15);
        due.is("sensed(0), no frame yet", x.sensed(0), 0);
        x.fly(1);
        due.is("sensed(0): the truth ahead of the move", x.sensed(0), 51);
        due.is("sensed(1)", x.sensed(1), 17);
        x.body(500, 0);
        due.is("sensed(0), of the last frame", x.sensed(0), 51);
    }

    private static void harmNumbers() {
        due.promise(22);
        FlyerRoom x = new FlyerRoom();
        int[][] bad = {{-1, 0, 0, 0, 0}, {5, 0, 0, 0, 0}, {0, -1, 0, 0, 0}, {0, 10000, 0, 0, 0}, {0, 0, -1, 0, 0},
            {0, 0, 3, 0, 0}, {0, 0, 0, -1, 0}, {0, 0, 0, 12, 0}, {1, 0, 0, 0, -1}, {1, 0, 0, 0, 32}, {2, 0, 0, 0, 0},
            {3, 0, 3, 0, 0}, {4, 0, -1, 0, 0}, {MAX, MAX, MAX, MAX, MAX}, {MIN, MIN, MIN, MIN, MIN}};
        for (int[] h : bad) due.is("harm " + h[0] + " " + h[1] + " " + h[2] + " " + h[3] + " " + h[4],
            x.harm(h[0], h[1], h[2], h[3], h[4]), -2);
        x.sensor(0, 0, 0, 0);
        due.is("harm(2, 9999, 0, -1, 99)", x.harm(2, 9999, 0, -1, 99), 0);
        due.is("harm(2, 0, 1, ..), no such sensor", x.harm(2, 0, 1, 0, 0), -2);
        due.is("harm(3, 5, 2, MIN, MAX)", x.harm(3, 5, 2, MIN, MAX), 1);
        due.is("harm(4, 5, 0, 12, 32)", x.harm(4, 5, 0, 12, 32), 2);
        due.is("harm(0, 0, 2, 11, 31)", x.harm(0, 0, 2, 11, 31), 3);
        x.fly(5);
        due.is("harm, gone", x.harm(0, 4, 0, 0, 0), -3);
        due.is("harm, the next frame", x.harm(0, 5, 0, 0, 0), 4);
        due.is("harm, bad ahead of no", x.harm(0, 4, 3, 0, 0), -2);
        for (int i = 5; i < 8; i++) due.is("harm", x.harm(1, 9, 0, 0, 0), i);
        due.is("harm, full", x.harm(1, 9, 0, 0, 0), -4);
        due.is("harm, no ahead of full", x.harm(1, 1, 0, 0, 0), -3);
        due.is("harm, bad ahead of full", x.harm(1, 9, 9, 0, 0), -2);
        x.fly(9);
        due.is("count(4): those that came stay told", x.count(4), 8);
    }

    private static void flips() {
        due.promise(22);
        FlyerRoom x = new FlyerRoom();
        x.harm(0, 1, 2, 11, 31);
        x.fly(1);
        due.is("not due yet", x.cell(2, 11), 0);
        x.fly(1);
        due.is("FLIP", x.cell(2, 11), MIN);
        x.harm(0, 2, 2, 11, 31);
        x.fly(1);
        due.is("FLIP back", x.cell(2, 11), 0);
        x.harm(1, 3, 0, 4, 2);
        x.harm(1, 3, 2, 5, 1);
        x.fly(1);
        due.is("TWIN", x.cell(0, 4), 4);
        due.is("TWIN, the next", x.cell(1, 4), 4);
        due.is("TWIN, no other", x.cell(2, 4), 0);
        due.is("TWIN of the last", x.cell(2, 5), 2);
        due.is("TWIN of the last, the first", x.cell(0, 5), 2);
        x.harm(1, 4, 1, 6, 0);
        x.fly(1);
        due.is("TWIN of the middle", x.cell(1, 6), 1);
        due.is("TWIN of the middle, the last", x.cell(2, 6), 1);
        due.is("TWIN of the middle, not the first", x.cell(0, 6), 0);
        FlyerRoom one = new FlyerRoom();
        one.lanes(1);
        one.harm(1, 0, 0, 4, 2);
        one.fly(1);
        due.is("TWIN of one lane: in it and in it", one.cell(0, 4), 0);
        FlyerRoom aside = Due.sayers(3);
        aside.harm(0, 0, 1, 0, 2);
        aside.harm(0, 4, 1, 0, 0);
        aside.fly(5);
        due.is("FLIP of a lane aside", aside.cell(1, 0), 5);
        FlyerRoom fewer = new FlyerRoom();
        fewer.lanes(4);
        for (int sort = 0; sort < 5; sort++) fewer.harm(sort, 0, 3, 0, 0);
        fewer.lanes(2);
        fewer.fly(1);
        due.is("of a lane that is not there: cell(0, 0)", fewer.cell(0, 0), 0);
        due.is("of a lane that is not there: cell(1, 0)", fewer.cell(1, 0), 0);
        FlyerRoom oneFewer = new FlyerRoom();
        oneFewer.lanes(4);
        oneFewer.harm(1, 0, 3, 0, 0);
        oneFewer.lanes(3);
        oneFewer.fly(1);
        due.is("the next of a lane just gone", oneFewer.cell(0, 0), 0);
        FlyerRoom wrapped = new FlyerRoom();
        wrapped.lanes(4);
        wrapped.harm(1, 0, 1, 0, 0);
        wrapped.lanes(2);
        wrapped.fly(1);
        due.is("the last of the lanes that are there then", wrapped.cell(0, 0), 1);
    }

    private static void stuck() {
        due.promise(22);
        FlyerRoom x = new FlyerRoom();
        x.sensor(0, 5, 16, 0);
        x.sensor(1, 9, 0, 0);
        x.harm(2, 0, 1, 0, 0);
        x.harm(2, 2, 0, 0, 0);
        x.body(1000, 0);
        x.fly(1);
        due.is("STUCK ahead of telling anything", x.sensed(1), 0);
        x.body(700, 0);
        x.fly(1);
        due.is("700 + 5 + 1", x.sensed(0), 706);
        x.body(300, 0);
        x.fly(1);
        due.is("STUCK", x.sensed(0), 706);
        x.fly(50);
        due.is("STUCK from then on", x.sensed(0), 706);
        due.is("and the one stuck ahead of it, too", x.sensed(1), 0);
    }

    private static void mute() {
        due.promise(22);
        FlyerRoom x = Due.sayers(3);
        x.aside(20, 1);
        x.harm(3, 1, 2, 0, 0);
        x.fly(1);
        due.is("lane(2, 3)", x.lane(2, 3), 0);
        for (int i = 0; i < 10; i++) {
            x.fly(1);
            due.is("a mute one differs where there is a result", x.now(6), 4);
            due.is("lane(2, 3)", x.lane(2, 3), 9 - i);
        }
        x.fly(1);
        due.is("now(6), no longer mute", x.now(6), 0);
        x.harm(3, 12, 0, 0, 0);
        x.harm(3, 15, 0, 0, 0);
        x.fly(3);
        due.is("lane(0, 3)", x.lane(0, 3), 7);
        x.fly(1);
        due.is("told anew: from then", x.lane(0, 3), 9);
        FlyerRoom all = Due.sayers(2);
        all.harm(3, 0, 0, 0, 0);
        all.harm(3, 0, 1, 0, 0);
        all.fly(1);
        due.is("all mute: no result", all.voted(0, 1), 0);
        due.is("and none differs", all.now(6), 0);
        // A mute lane runs: its cell is set.
        FlyerRoom ran = new FlyerRoom();
        ran.step(0, 0, 8, 0);
        ran.step(9, 0, 0, 0);
        ran.part(0, 0, 2);
        ran.slot(0, 0, 2);
        ran.harm(3, 0, 1, 0, 0);
        due.is("two of two say 8", ran.fly(1), 8);
        due.is("the mute one ran", ran.cell(1, 0), 8);
    }

    private static void slow() {
        due.promise(22);
        FlyerRoom x = new FlyerRoom();
        x.step(0, 0, 5, 0);
        x.step(9, 0, 0, 0);
        x.part(0, 0, 2);
        x.slot(0, 0, 2);
        x.slot(1, 5, 1);
        x.aside(20, 1);
        x.harm(4, 0, 1, 0, 0);
        due.is("fly(1)", x.fly(1), 5);
        due.is("a tick too few for the slow one; an empty part needs none", x.now(7), 1);
        due.is("what it did stays", x.cell(1, 0), 5);
        due.is("voted(0, 3)", x.voted(0, 3), 0);
        due.is("now(6)", x.now(6), 2);
        due.is("lane(1, 4)", x.lane(1, 4), 9);
        x.fly(9);
        due.is("ten frames", x.now(7), 1);
        due.is("lane(1, 4)", x.lane(1, 4), 0);
        x.fly(1);
        due.is("no longer slow", x.now(7), 0);
        x.harm(4, 11, 0, 0, 0);
        x.harm(4, 14, 0, 0, 0);
        x.fly(4);
        due.is("told anew: from then", x.lane(0, 4), 9);
    }

    private static void copiedFromTheLeast() {
        due.promise(19);
        // Lane 0 differs by its word; lanes 1 and 2 have a mark each in a cell that nobody says.
        FlyerRoom x = Due.sayers(4);
        x.word(0, 1, 0);
        x.aside(1, 2);
        x.harm(0, 0, 0, 0, 4);
        x.harm(0, 0, 1, 5, 0);
        x.harm(0, 0, 2, 5, 1);
        x.fly(1);
        due.is("lane(0, 0)", x.lane(0, 0), 0);
        x.fly(2);
        due.is("lane(0, 0)", x.lane(0, 0), 1);
        due.is("of the least lane in", x.cell(0, 5), 1);
        due.is("cell(0, 0)", x.cell(0, 0), 0);
        FlyerRoom y = Due.sayers(3);
        y.aside(1, 2);
        y.harm(0, 0, 2, 0, 4);
        y.harm(0, 0, 0, 5, 0);
        y.harm(0, 0, 1, 5, 1);
        y.fly(3);
        due.is("of lane 0, if that is in", y.cell(2, 5), 1);
    }

    public static void main(String[] args) {
        fly();
        now();
        cell();
        lane();
        voted();
        sensed();
        harmNumbers();
        flips();
        stuck();
        mute();
        slow();
        copiedFromTheLeast();
        due.end();
    }
}
