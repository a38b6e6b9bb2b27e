import java.util.Arrays;

/** Terms 4, sentence by sentence: fates, the box, spans, clocks and images at their edges. */
public final class ProofsEdgesTest {
    private static final Due due = new Due();
    private static final int MIN = Integer.MIN_VALUE;

    private static int[] s(int act, int a, int b, int c) {
        return Due.s(act, a, b, c);
    }

    private static void fate(FlyerRoom x, int lane, int cell, int bit, int k, int... want) {
        long before = x.digest();
        for (int what = 0; what < want.length; what++) {
            due.is("fate(" + lane + ", " + cell + ", " + bit + ", " + k + ", " + what + ")", x.fate(lane, cell, bit, k, what), want[what]);
        }
        due.is("all stays as it is", x.digest(), before);
    }

    private static void nextFrames() {
        due.sentence("THE FATE of a FLIP (LANE, CELL, bit) now, over the next k FRAMES (1 .. 20)");
        for (int frame = 0; frame <= 20; frame++) {
            // A new program says cell 7, from this frame on.
            FlyerRoom x = Due.runners(1, 1, s(0, 0, 0, 0));
            x.piece(9, 7, 0, 0);
            x.begin(frame, x.seal(1));
            if (frame > 0) fate(x, 0, 7, 2, frame, 3, -1, 0, -1);
            if (frame < 20) fate(x, 0, 7, 2, frame + 1, 2, frame, 4, -1);
            fate(x, 0, 7, 2, 20, frame < 20 ? 2 : 3, frame < 20 ? frame : -1, frame < 20 ? 4 : 0, -1);
        }
        FlyerRoom y = Due.sayers(1);
        for (int cell = 0; cell < 12; cell++) {
            for (int bit = 0; bit < 32; bit++) {
                due.is("cell " + cell + ", bit " + bit, y.fate(0, cell, bit, 1, 0), cell == 0 ? 2 : 3);
            }
        }
    }

    private static void reaches() {
        due.sentence("2 it REACHES: THE MOVER's word differs in some FRAME");
        fate(Due.sayers(1), 0, 0, 0, 1, 2, 0, 1, -1);
        // As the limits bring both to the same word, it does not.
        FlyerRoom cut = Due.runners(1, 3, s(0, 1, 200, 0), s(1, 2, 0, 1), s(9, 2, 0, 0));
        fate(cut, 0, 0, 6, 1, 3, -1, 0, -1);
        fate(cut, 0, 0, 31, 1, 2, 0, 200, -1);
        due.sentence("the greatest size of that (2; 0)");
        FlyerRoom wide = Due.sayers(1);
        wide.limit(0, -1000, 1000);
        fate(wide, 0, 0, 9, 1, 2, 0, 512, -1);
        fate(wide, 0, 0, 10, 1, 2, 0, 1000, -1);
        fate(wide, 0, 0, 31, 1, 2, 0, 1000, -1);
        FlyerRoom far = Due.runners(1, 3, s(0, 1, 1000, 0), s(1, 2, 0, 1), s(9, 2, 0, 0));
        far.limit(0, -1000, 1000);
        fate(far, 0, 0, 31, 1, 2, 0, 2000, -1);
        // It doubles from frame to frame, and is halved.
        FlyerRoom more = Due.runners(1, 2, s(9, 0, 0, 0), s(1, 0, 0, 0));
        fate(more, 0, 0, 0, 1, 2, 0, 1, -1);
        fate(more, 0, 0, 0, 4, 2, 0, 8, -1);
        FlyerRoom less = Due.runners(1, 3, s(0, 1, 2, 0), s(9, 0, 0, 0), s(4, 0, 0, 1));
        fate(less, 0, 0, 5, 1, 2, 0, 32, -1);
        fate(less, 0, 0, 5, 4, 2, 0, 32, -1);
        fate(less, 0, 0, 5, 20, 2, 0, 32, -1);
    }

    private static void reachesAheadOfShows() {
        due.sentence("2 it REACHES ...; else 1 it SHOWS");
        FlyerRoom x = Due.sayers(2);
        x.word(0, 1, 0);
        x.aside(1, 50);
        fate(x, 0, 0, 4, 1, 2, 0, 8, 0);
        x.limit(0, 0, 0);
        fate(x, 0, 0, 4, 1, 1, -1, 0, 0);
        // Lane 1 is put aside in frame 0; so but two are in, and the mode's limits bring the word of frame 1 to 50.
        FlyerRoom later = Due.sayers(3);
        later.aside(1, 50);
        later.limit(2, 50, 50);
        Due.write(later, "n");
        fate(later, 1, 0, 4, 1, 1, -1, 0, 0);
        fate(later, 1, 0, 4, 2, 2, 1, 50, 0);
    }

    private static void shows() {
        due.sentence("else 1 it SHOWS: that LANE is put ASIDE in some FRAME in which it is not without it");
        for (int lanes = 3; lanes <= 4; lanes++) {
            for (int lane = 0; lane < lanes; lane++) {
                FlyerRoom x = Due.sayers(lanes);
                fate(x, lane, 0, 4, 2, 3, -1, 0, -1);
                fate(x, lane, 0, 4, 3, 1, -1, 0, 2);
                fate(x, lane, 0, 4, 20, 1, -1, 0, 2);
                x.aside(20, 1);
                fate(x, lane, 0, 4, 19, 3, -1, 0, -1);
                fate(x, lane, 0, 4, 20, 1, -1, 0, 19);
                x.aside(1, 1);
                fate(x, lane, 0, 4, 1, 1, -1, 0, 0);
            }
        }
        // Word 0: 1 0 2 1 has no result, and 1 1 2 1 has 1: lane 2 differs. Word 1: lane 1's alone becomes unlike.
        FlyerRoom both = Due.runners(4, 3, s(9, 0, 0, 0), s(3, 6, 0, 5), s(9, 6, 1, 0));
        both.aside(1, 50);
        both.limit(0, 0, 0);
        both.harm(0, 0, 0, 0, 0);
        both.harm(0, 0, 2, 0, 1);
        both.harm(0, 0, 3, 0, 0);
        both.harm(0, 0, 1, 5, 0);
        due.sentence("SHOWS: that LANE, beside another that is put ASIDE in the same FRAME");
        fate(both, 1, 0, 0, 1, 1, -1, 0, 0);
        due.sentence("the first in which the LANE is put ASIDE that is not without it (3)");
        // Mute from frame 1 on; it goes aside in 2, 5, 8 without the flip, in 1, 4, 7 with it.
        FlyerRoom often = Due.sayers(3);
        often.aside(2, 1);
        often.harm(3, 1, 1, 0, 0);
        fate(often, 1, 0, 4, 1, 3, -1, 0, -1);
        fate(often, 1, 0, 4, 2, 1, -1, 0, 1);
        fate(often, 1, 0, 4, 9, 1, -1, 0, 1);
    }

    private static void doesNotShow() {
        due.sentence("SHOWS: ... in which it is not without it");
        // Aside in the same frame with the flip and without it.
        FlyerRoom same = Due.sayers(3);
        same.aside(2, 50);
        same.harm(3, 0, 1, 0, 0);
        fate(same, 1, 0, 4, 5, 3, -1, 0, -1);
        fate(same, 1, 5, 4, 5, 3, -1, 0, -1);
        // The last one in is not put aside, so it can not show.
        FlyerRoom last = Due.sayers(1);
        last.aside(1, 1);
        last.limit(0, 0, 0);
        fate(last, 0, 0, 4, 20, 3, -1, 0, -1);
        // Already aside it is not put aside.
        FlyerRoom aside = Due.sayers(3);
        aside.aside(1, 50);
        aside.harm(0, 0, 1, 0, 4);
        aside.fly(1);
        fate(aside, 1, 0, 5, 20, 3, -1, 0, -1);
        // That another lane is put aside does not count: word 1 of lane 0 joins lane 1's, and lane 2 differs.
        FlyerRoom other = joined();
        fate(other, 0, 1, 0, 1, 3, -1, 0, -1);
    }

    /** Cell 1 is said as word 1 and cleared: 0, 1, 2 in frame 0, all alike behind it; the flip of lane 0 gives 1, 1, 2. */
    private static FlyerRoom joined() {
        FlyerRoom x = Due.runners(3, 4, s(9, 1, 1, 0), s(0, 1, 0, 0), s(9, 0, 0, 0), s(0, 0, 0, 0));
        x.aside(1, 50);
        x.limit(0, 0, 0);
        x.harm(0, 0, 1, 1, 0);
        x.harm(0, 0, 2, 1, 1);
        return x;
    }

    private static void dies() {
        due.sentence("else 0 it DIES: behind all FRAMES CELLS, rows, who is IN, and how long ASIDE are alike in all LANES; else 3 it HIDES");
        FlyerRoom cells = Due.runners(3, 1, s(0, 0, 0, 0));
        fate(cells, 1, 0, 0, 1, 0, -1, 0, -1);
        fate(cells, 1, 1, 0, 1, 3, -1, 0, -1);
        fate(cells, 1, 11, 31, 20, 3, -1, 0, -1);
        // Rows: it is said, and cleared, and the row is one for a frame.
        FlyerRoom rows = Due.runners(3, 2, s(9, 0, 0, 0), s(0, 0, 0, 0));
        fate(rows, 1, 0, 4, 1, 3, -1, 0, -1);
        fate(rows, 1, 0, 4, 2, 0, -1, 0, -1);
        // The row of another lane: lane 2 differs by the flip of lane 0.
        FlyerRoom otherRow = joined();
        otherRow.aside(3, 50);
        fate(otherRow, 0, 1, 0, 1, 3, -1, 0, -1);
        fate(otherRow, 0, 1, 0, 2, 0, -1, 0, -1);
        // How long: lane 2 is put aside by the flip in frame 0, without it in frame 1, being mute.
        FlyerRoom howLong = joined();
        howLong.harm(3, 1, 2, 0, 0);
        fate(howLong, 0, 1, 0, 2, 3, -1, 0, -1);
        fate(howLong, 0, 1, 0, 3, 3, -1, 0, -1);
        fate(howLong, 0, 1, 0, 20, 3, -1, 0, -1);
        // Who is in: in frame 1 lanes 0 and 1 both differ. Without the flip both go, for lane 2 is in; with it lane 1 is the last.
        FlyerRoom whoIsIn = joined();
        whoIsIn.aside(1, 1);
        whoIsIn.word(0, 1, 0);
        whoIsIn.harm(0, 1, 1, 0, 2);
        whoIsIn.harm(0, 1, 2, 0, 1);
        fate(whoIsIn, 0, 1, 0, 1, 3, -1, 0, -1);
        fate(whoIsIn, 0, 1, 0, 2, 3, -1, 0, -1);
        FlyerRoom without = joined();
        without.aside(1, 1);
        without.word(0, 1, 0);
        without.harm(0, 1, 1, 0, 2);
        without.harm(0, 1, 2, 0, 1);
        without.fly(2);
        due.is("without it lane 0 is aside", without.lane(0, 0), 0);
        due.is("and lane 1", without.lane(1, 0), 0);
        due.is("lane 2 is in", without.lane(2, 0), 1);
    }

    private static void diesAllTheSame() {
        due.sentence("DIES: ... CELLS, rows, who is IN, and how long ASIDE (and no more)");
        // Another number was said, within the span.
        FlyerRoom said = Due.runners(3, 2, s(9, 1, 1, 0), s(0, 1, 0, 0));
        said.word(1, 1, 100);
        fate(said, 1, 1, 2, 1, 0, -1, 0, -1);
        // A part failed, without the flip, and THE MODE is another.
        FlyerRoom mode = Due.runners(1, 3, s(7, 1, 1, 0), s(0, 2, 0, 0), s(0, 1, 0, 0), s(0, 3, 0, 0));
        Due.write(mode, "f");
        fate(mode, 0, 1, 0, 1, 0, -1, 0, -1);
        mode.fly(1);
        due.is("the mode without it", mode.now(3), 1);
        // A lane that was aside comes in with cells copied, and with it the flip is gone.
        FlyerRoom copied = Due.sayers(3);
        copied.aside(1, 4);
        copied.harm(0, 0, 1, 0, 4);
        copied.fly(1);
        fate(copied, 1, 5, 5, 3, 3, -1, 0, -1);
        fate(copied, 1, 5, 5, 4, 0, -1, 0, -1);
        // The flip is copied, too: lane 1 comes in with lane 0's cells.
        fate(copied, 0, 5, 5, 3, 3, -1, 0, -1);
        fate(copied, 0, 5, 5, 4, 3, -1, 0, -1);
    }

    private static void faultsInBoth() {
        due.sentence("(FAULTS that are due come in both; all stays as it is.)");
        FlyerRoom x = Due.sayers(1);
        x.harm(0, 0, 0, 0, 3);
        fate(x, 0, 0, 3, 1, 2, 0, 8, -1);
        fate(x, 0, 0, 4, 1, 2, 0, 16, -1);
        // 8 and 16 and 8 once more: what is left differs by 16 alone.
        x.harm(0, 1, 0, 0, 3);
        fate(x, 0, 0, 4, 2, 2, 0, 16, -1);
        due.is("no FAULT came", x.cell(0, 0), 0);
        due.is("nor is one told", x.count(4), 2);
        due.is("they come in the flight", x.fly(1), 8);
    }

    private static void fatesOfAll() {
        due.sentence("How many FLIPS of a LANE (all CELLS, all bits) have a FATE.");
        // Cells 4 and 5 are set, cell 0 is said. Of two lanes none is more than half, and a row of 3 takes three frames.
        int[][] oneFrame = {{64, 0, 32, 288}, {64, 0, 0, 320}, {64, 0, 0, 320}, {64, 0, 0, 320}};
        int[][] threeFrames = {{64, 0, 32, 288}, {64, 0, 0, 320}, {64, 32, 0, 288}, {64, 32, 0, 288}};
        for (int lanes = 1; lanes <= 4; lanes++) {
            FlyerRoom x = Due.runners(lanes, 3, s(0, 4, 0, 0), s(9, 0, 0, 0), s(0, 5, 0, 0));
            for (int lane = 0; lane < lanes; lane++) {
                for (int f = 0; f < 4; f++) {
                    due.is(lanes + " lanes, fates(" + lane + ", 1, " + f + ")", x.fates(lane, 1, f), oneFrame[lanes - 1][f]);
                    due.is(lanes + " lanes, fates(" + lane + ", 3, " + f + ")", x.fates(lane, 3, f), threeFrames[lanes - 1][f]);
                }
            }
        }
        FlyerRoom y = Due.sayers(3);
        y.aside(1, 20);
        y.harm(3, 0, 1, 0, 0);
        y.fly(1);
        due.is("of a lane ASIDE, all hide", y.fates(1, 19, 3), 384);
        due.is("and die as it comes in", y.fates(1, 20, 0), 384);
    }

    private static int cause(FlyerRoom x, int... words) {
        x.unbox();
        for (int word : words) x.box(word);
        long before = x.digest();
        int found = x.cause();
        due.is("all stays as it is", x.digest(), before);
        return found;
    }

    private static void firstFlip() {
        due.sentence("CAUSE: the first FLIP (by FRAMES from now on, 0 first, then LANES, CELLS, bits) by which the next FRAMES give just these words");
        // Lane 1 (its cell 5 is 1) says in the next frame what is in cell 1; all say what is in cell 0 at once.
        FlyerRoom frames = Due.runners(2, 2, s(9, 0, 0, 0), s(3, 0, 1, 5));
        frames.word(0, 1, 1000);
        frames.harm(0, 0, 1, 5, 0);
        frames.fly(1);
        due.is("FRAMES ahead of LANES", cause(frames, 0, 8), 10104);
        due.is("a FRAME from now", cause(frames, 0, 0, 0, 8), 210104);
        due.is("now", cause(frames, 8, 0), 4);
        due.is("the last FRAME", cause(frames, 0, 0, 8, 0), 200004);
        // Lane 0 says cell 5, lane 1 cell 0.
        FlyerRoom lanes = Due.runners(2, 4, s(3, 2, 5, 6), s(3, 3, 0, 7), s(1, 2, 2, 3), s(9, 2, 0, 0));
        lanes.word(0, 1, 1000);
        lanes.harm(0, 0, 0, 6, 0);
        lanes.harm(0, 0, 1, 7, 0);
        lanes.fly(1);
        due.is("LANES ahead of CELLS", cause(lanes, 8), 504);
        // Cell 0 by 4 and cell 1 are said together.
        FlyerRoom cells = Due.runners(1, 4, s(0, 3, 4, 0), s(4, 4, 0, 3), s(1, 4, 4, 1), s(9, 4, 0, 0));
        due.is("CELLS ahead of bits", cause(cells, 8), 5);
        due.is("bits from 0 on", cause(cells, 100), 9);
        due.is("the top bit", cause(cells, -100), 31);
        // Cell 4 is looked at by AGAIN alone: 1 is said, or by going back as often as ticks allow 13.
        FlyerRoom again = Due.runners(1, 40, s(0, 2, 0, 0), s(0, 3, 1, 0), s(1, 2, 2, 3), s(9, 2, 0, 0), s(10, 4, 2, 0));
        due.is("a CELL that AGAIN alone looks at", cause(again, 13), 400);
        due.is("all its bits but the top one reach", again.fates(0, 1, 2), 31);
        FlyerRoom last = Due.runners(4, 2, s(1, 10, 10, 11), s(9, 10, 0, 0));
        last.word(0, 1, 1000);
        last.aside(1, 50);
        for (int lane = 0; lane < 3; lane++) last.harm(3, 0, lane, 0, 0);
        last.fly(1);
        due.is("only lane 3 is in", last.now(5), 1);
        due.is("of the last LANE", cause(last, 2), 31001);
        due.is("of the last LANE, the last FRAME of ten", cause(last, 0, 0, 0, 0, 0, 0, 0, 0, 0, -100), 931031);
        due.is("of the last LANE, the last CELL", cause(last, 2, 4), 31101);
    }

    private static void noFlip() {
        due.sentence("0 times if they do without any; NONE: no FLIP; -5: without any. (Of an empty BOX -5.)");
        FlyerRoom x = Due.sayers(1);
        due.is("an empty BOX", cause(x), -5);
        due.is("without any", cause(x, 0), -5);
        due.is("ten without any", cause(x, 0, 0, 0, 0, 0, 0, 0, 0, 0, 0), -5);
        due.is("no FLIP gives two bits", cause(x, 3), -1);
        due.is("no FLIP goes back", cause(x, 1, 0), -1);
        due.is("beyond the limits", cause(x, 101), -1);
        due.is("-1000", cause(x, -1000), -1);
        due.is("1000", cause(x, 1000), -1);
        x.limit(0, -1000, 1000);
        due.is("-1000, as the limit brings it", cause(x, -1000), 31);
        due.is("1000, as the limit brings it", cause(x, 1000), 10);
        due.sentence("THE BOX: up to 10 words of THE MOVER, as told");
        x.unbox();
        for (int i = 1; i <= 10; i++) due.is("word " + i, x.box(i == 10 ? 1 : 0), i);
        due.is("an 11th", x.box(0), -4);
        due.is("ten count", x.cause(), 900000);
        due.is("all ten go", x.unbox(), 10);
        due.is("none are left", x.cause(), -5);
        // A FAULT that is due gives the words by itself, and beside it a FLIP gives others.
        FlyerRoom y = Due.sayers(1);
        y.harm(0, 1, 0, 0, 3);
        due.is("a FAULT is none of them", cause(y, 0, 8), -5);
        due.is("it is as if it had not come", cause(y, 0, 0), 100003);
        due.is("a bit more", cause(y, 4, 12), 2);
    }

    private static FlyerRoom spans(int... offsetsAndErrors) {
        FlyerRoom x = new FlyerRoom();
        for (int i = 0; i < offsetsAndErrors.length; i += 2) x.sensor(0, offsetsAndErrors[i], 0, offsetsAndErrors[i + 1]);
        return x;
    }

    private static void guessed(String call, FlyerRoom x, int least, int greatest, int off) {
        long before = x.digest();
        due.is(call + ", the least", x.guess(0, 0), least);
        due.is(call + ", the greatest", x.guess(0, 1), greatest);
        due.is(call + ", OFF", x.guess(0, 2), off);
        due.is(call + ", nothing changes", x.digest(), before);
    }

    private static void spansOfSensors() {
        due.sentence("what it tells now, less and more its ERROR (0 .. 1000; 0 at first)");
        guessed("ERROR 0", spans(7, 0), 7, 7, 0);
        guessed("ERROR 1000", spans(7, 1000), -993, 1007, 0);
        FlyerRoom far = spans(1000, 1000);
        far.body(1000000, 0);
        guessed("the greatest", far, 1000000, 1002000, 0);
        due.sentence("of all sets of its SENSORS the spans of which have a number in common that with the most");
        guessed("they touch", spans(0, 5, 10, 5), 5, 5, 0);
        guessed("they just do not", spans(0, 5, 11, 5), -5, 5, 2);
        guessed("one within the other", spans(0, 100, 10, 5), 5, 15, 0);
        guessed("alike, ERROR 0", spans(3, 0, 3, 0), 3, 3, 0);
        guessed("two of three", spans(0, 1, 50, 1, 51, 1), 50, 51, 1);
        guessed("all six", spans(0, 10, 2, 10, 4, 10, 6, 10, 8, 10, 20, 10), 10, 10, 0);
        guessed("five of six", spans(0, 10, 2, 10, 4, 10, 6, 10, 8, 10, 21, 10), -2, 10, 32);
        guessed("each alone", spans(0, 0, 1, 0, 2, 0, 3, 0, 4, 0, 5, 0), 0, 0, 62);
        due.sentence("of like ones the least set as a number");
        guessed("0 and 1, or 1 and 2", spans(0, 5, 8, 5, 16, 5), 3, 5, 4);
        guessed("{0, 3} is 9, {1, 2} is 6", spans(30, 1, 10, 1, 10, 1, 30, 1), 9, 11, 9);
        guessed("{0, 2} is 5, {1, 2} is 6", spans(0, 5, 20, 5, 10, 5), 5, 5, 2);
        guessed("two alone", spans(50, 0, -50, 0), 50, 50, 2);
        due.sentence("GUESS of a sort: ... OFF: the others");
        FlyerRoom sorts = new FlyerRoom();
        sorts.sensor(1, 5, 0, 0);
        sorts.sensor(0, 5, 0, 0);
        sorts.sensor(1, 9, 0, 0);
        sorts.sensor(0, 9, 0, 0);
        due.is("sort 0", sorts.guess(0, 2), 8);
        due.is("sort 1", sorts.guess(1, 2), 4);
        due.is("sort 1, the number", sorts.guess(1, 0), 5);
    }

    private static void asAtC() {
        due.sentence("of a SENSOR: what it tells now (as at (c), nothing changes)");
        FlyerRoom x = new FlyerRoom();
        x.sensor(0, 0, -1, 0);
        x.body(100, 0);
        due.is("FRAME 0", x.guess(0, 0), 100);
        x.fly(15);
        x.body(100, 0);
        due.is("FRAME 15", x.guess(0, 0), 100);
        x.fly(1);
        x.body(100, 0);
        due.is("FRAME 16", x.guess(0, 0), 99);
        x.harm(2, 16, 0, 0, 0);
        due.is("STUCK is due, but has not come", x.guess(0, 0), 99);
        x.fly(1);
        x.body(500, 0);
        due.is("STUCK: what it told last, not what was guessed", x.guess(0, 0), 100);
        FlyerRoom never = new FlyerRoom();
        never.sensor(0, 50, 0, 3);
        never.harm(2, 0, 0, 0, 0);
        never.guess(0, 0);
        never.fly(1);
        due.is("to be guessed is not to tell", never.guess(0, 0), -3);
    }

    private static void clocks(int n, long want, int... timesAndRates) {
        FlyerRoom x = new FlyerRoom();
        x.lanes(timesAndRates.length / 2);
        for (int i = 0; i < timesAndRates.length; i += 2) x.clock(i / 2, timesAndRates[i], timesAndRates[i + 1]);
        long before = x.digest();
        due.is("near(" + n + "), " + Arrays.toString(timesAndRates), x.near(n), want);
        due.is("near(" + n + "), nothing changes", x.near(n), want);
        due.is("the digest", x.digest(), before);
    }

    private static void clocksBroughtNear() {
        due.sentence("CLOCKS of LANES: a time (-1000000 .. 1000000; 0 at first), a rate (-1000 .. 1000; 0). NEAR behind n rounds (0 .. 100)");
        clocks(0, 0, 0, 0, 0, 0, 0, 0, 0, 0);
        clocks(100, 0, 0, 0, 0, 0, 0, 0, 0, 0);
        clocks(0, 2000000, 1000000, 0, -1000000, 0);
        clocks(0, 2000000, 0, 0, 1000000, 0, 5, 0, -1000000, 0);
        clocks(0, 7, 7, 1000, 0, -1000);
        clocks(100, 0, -1000000, -1000);
        due.sentence("round by round each goes on by its rate, then each becomes itself and half (cut) of what it lacks to the MIDDLE of all LANES' that are there: the greatest difference of two");
        // 3 and 0: the middle is 1 (cut); 3 lacks -2 and becomes 2; 0 lacks 1, half of which is cut.
        clocks(1, 2, 3, 0, 0, 0);
        // -3 and 0: the middle is -1; likewise below 0.
        clocks(1, 2, -3, 0, 0, 0);
        // 1 and 0: the middle is 0; 1 lacks -1, half of which is cut.
        clocks(100, 1, 1, 0, 0, 0);
        // 2, 0: the middle is 1, and both lack 1, half of which is cut.
        clocks(100, 2, 2, 0, 0, 0);
        // 0, 10, 100: 5, 10, 55.
        clocks(1, 50, 0, 0, 10, 0, 100, 0);
        // 7, 10, 33, for 5 lacks 5 and 55 lacks -45.
        clocks(2, 26, 0, 0, 10, 0, 100, 0);
        // All lack the middle as it was ahead of any of them becoming another.
        clocks(1, 3, 0, 0, 4, 0, 6, 0);
        // 10, 0: 10 and 0 become 20 and 0 by rates, middle 10: 15 and 5.
        clocks(1, 10, 10, 10, 0, 0);
        // 1000 against -1000 each round: 1000, -1000 become 500, -500; 1500, -1500 become 750, -750.
        clocks(1, 1000, 0, 1000, 0, -1000);
        clocks(2, 1500, 0, 1000, 0, -1000);
        clocks(3, 1750, 0, 1000, 0, -1000);
        // Four lanes: 0, 1, 10, 20: the middle is 5 (11 by 2): 2, 3, 8, 13.
        clocks(1, 11, 0, 0, 10, 0, 20, 0, 1, 0);
        FlyerRoom x = Due.sayers(3);
        x.aside(1, 50);
        x.harm(3, 0, 2, 0, 0);
        x.clock(2, 100, 0);
        x.fly(1);
        due.is("a LANE ASIDE is there", x.near(0), 100);
        due.is("and its clock goes near", x.near(1), 50);
        due.is("flying changes no clock", x.near(0), 100);
        FlyerRoom fewer = new FlyerRoom();
        fewer.clock(2, 100, 0);
        fewer.lanes(2);
        due.is("a LANE that is not there", fewer.near(0), 0);
    }

    private static void imagesKeepAll() {
        due.sentence("IMAGES 0, 1 keep all but them; the flight goes on from one.");
        FlyerRoom x = Due.sayers(2);
        due.is("none was kept, 0", x.from(0), -3);
        due.is("none was kept, 1", x.from(1), -3);
        due.is("image(1)", x.image(1), 1);
        due.is("of 0 still none", x.from(0), -3);
        x.harm(1, 0, 0, 0, 3);
        x.fly(1);
        due.is("image(0)", x.image(0), 1);
        long kept = x.digest();
        x.fly(3);
        due.is("from(1)", x.from(1), 1);
        due.is("FRAME 0", x.now(4), 0);
        due.is("no FAULT is told", x.count(4), 0);
        due.is("IMAGE 0 is not in IMAGE 1, and is still kept", x.from(0), 1);
        due.is("as it was", x.digest(), kept);
        due.is("IMAGE 1 is not in IMAGE 0, and is still kept", x.from(1), 1);
        due.is("the flight is that of FRAME 0", x.lanes(4), 1);
        due.is("an IMAGE is not changed by it", x.from(1), 1);
        due.is("two lanes", x.count(0), 2);
        x.fly(2);
        due.is("kept anew", x.image(1), 1);
        x.fly(2);
        x.from(1);
        due.is("FRAME 2", x.now(4), 2);
        due.sentence("the flight goes on from an IMAGE: what was due in it is due again");
        FlyerRoom y = Due.runners(1, 2, s(0, 0, 3, 0), s(9, 0, 0, 0));
        y.piece(0, 0, 9, 0);
        y.piece(9, 0, 0, 0);
        y.begin(2, y.seal(1));
        y.image(0);
        due.is("it begins", y.fly(3), 9);
        y.from(0);
        due.is("not begun", y.fly(2), 3);
        due.is("it begins again", y.fly(1), 9);
        y.from(0);
        y.leave();
        due.is("left", y.fly(3), 3);
        y.from(0);
        due.is("the steps are there again", y.count(6), 2);
        due.is("and due", y.fly(3), 9);
    }

    private static void saidNothing() {
        due.sentence("what a LANE said of it (2 + LANE; 0: nothing)");
        for (int word = 0; word < 8; word++) {
            FlyerRoom x = Due.runners(4, 2, s(0, 0, MIN, 0), s(9, 0, word, 0));
            for (int lane = 0; lane < 4; lane++) due.is("ahead of any FRAME", x.voted(word, 2 + lane), 0);
            x.fly(1);
            for (int lane = 0; lane < 4; lane++) due.is("WORD " + word + " of lane " + lane, x.voted(word, 2 + lane), MIN);
            due.is("its result", x.voted(word, 0), MIN);
            x.unslot();
            x.fly(1);
            for (int lane = 0; lane < 4; lane++) due.is("WORD " + word + " of lane " + lane + ", then", x.voted(word, 2 + lane), 0);
            due.is("no result, then", x.voted(word, 0), 0);
            due.is("whether, then", x.voted(word, 1), 0);
        }
        for (int lane = 0; lane < 4; lane++) {
            // One lane alone says it (its cell 1 is 0), and it says nothing in the next frame.
            FlyerRoom x = Due.runners(4, 3, s(7, 1, 2, 0), s(0, 0, MIN, 0), s(9, 0, 5, 0));
            for (int other = 0; other < 4; other++) {
                if (other != lane) x.harm(0, 0, other, 1, 0);
            }
            x.fly(1);
            for (int l = 0; l < 4; l++) due.is("lane " + lane + " alone, lane " + l, x.voted(5, 2 + l), l == lane ? MIN : 0);
            x.unslot();
            x.fly(1);
            for (int l = 0; l < 4; l++) due.is("lane " + lane + " alone, lane " + l + ", then", x.voted(5, 2 + l), 0);
        }
    }

    public static void main(String[] args) {
        nextFrames();
        reaches();
        reachesAheadOfShows();
        shows();
        doesNotShow();
        dies();
        diesAllTheSame();
        faultsInBoth();
        fatesOfAll();
        firstFlip();
        noFlip();
        spansOfSensors();
        asAtC();
        clocksBroughtNear();
        imagesKeepAll();
        saidNothing();
        due.end();
    }
}
