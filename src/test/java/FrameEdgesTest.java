/** Terms 2, sentence by sentence: what a frame does, at its edges, in the order (a) to (j). */
public final class FrameEdgesTest {
    private static final Due due = new Due();
    private static final int MAX = Integer.MAX_VALUE, MIN = Integer.MIN_VALUE;

    private static int[] s(int act, int a, int b, int c) {
        return Due.s(act, a, b, c);
    }

    private static void beginsFirst() {
        due.sentence("(a) A new PROGRAM begins, if it is due.");
        FlyerRoom x = Due.runners(2, 2, s(0, 0, 3, 0), s(9, 0, 0, 0));
        x.piece(0, 0, 9, 0);
        x.piece(9, 0, 0, 0);
        x.begin(0, x.seal(1));
        due.is("due at FRAME 0", x.fly(1), 9);
        x.begin(2, x.seal(1));
        due.is("a frame ahead", x.fly(1), 9);
        due.is("its frame", x.fly(1), 3);
        due.is("once", x.fly(2), 3);
    }

    private static void faultsAheadOfSensors() {
        due.sentence("(b) FAULTS that are due come. (c) SENSORS ... STUCK ones what they told last (0, if they never did)");
        FlyerRoom x = new FlyerRoom();
        x.sensor(0, 7, 0, 0);
        x.harm(2, 0, 0, 0, 0);
        x.fly(1);
        due.is("STUCK in FRAME 0: it never told", x.sensed(0), 0);
        x.fly(9);
        due.is("and never does", x.sensed(0), 0);
        FlyerRoom y = new FlyerRoom();
        y.sensor(0, 7, 0, 0);
        y.body(1000, 0);
        y.harm(2, 1, 0, 0, 0);
        y.fly(1);
        due.is("FRAME 0", y.sensed(0), 1007);
        y.body(2000, 0);
        y.fly(1);
        due.is("STUCK in FRAME 1: what it told in FRAME 0", y.sensed(0), 1007);
        due.sentence("(b) FAULTS that are due come. (d) Each LANE that is IN ... runs");
        FlyerRoom z = Due.sayers(1);
        z.harm(0, 0, 0, 0, 3);
        due.is("a FLIP is said in its frame", z.fly(1), 8);
    }

    /** What a sensor of this drift tells of height 0 in a frame. */
    private static int told(int offset, int drift, int frame) {
        FlyerRoom x = new FlyerRoom();
        x.sensor(0, offset, drift, 0);
        for (int i = 0; i < frame; i += 100) x.fly(Math.min(100, frame - i));
        x.fly(1);
        return x.sensed(0);
    }

    private static void drifts() {
        due.sentence("the truth and OFFSET (-1000 .. 1000) and DRIFT (-100 .. 100) times the FRAME's number by 16, cut");
        due.is("FRAME 0", told(5, 100, 0), 5);
        due.is("1 times 15", told(0, 1, 15), 0);
        due.is("1 times 16", told(0, 1, 16), 1);
        due.is("-1 times 15", told(0, -1, 15), 0);
        due.is("-1 times 16", told(0, -1, 16), -1);
        due.is("-1 times 31", told(0, -1, 31), -1);
        due.is("-1 times 32", told(0, -1, 32), -2);
        due.is("100 times 1", told(0, 100, 1), 6);
        due.is("-100 times 1", told(0, -100, 1), -6);
        due.is("1000 and 100 times 9999", told(1000, 100, 9999), 63493);
        due.is("-1000 and -100 times 9999", told(-1000, -100, 9999), -63493);
        FlyerRoom x = new FlyerRoom();
        x.sensor(0, -1000, 0, 0);
        x.sensor(1, 1000, 0, 0);
        x.body(1000000, -1000000);
        x.fly(1);
        due.is("the greatest height", x.sensed(0), 999000);
        due.is("the least speed", x.sensed(1), -999000);
    }

    private static int middleOf(int... offsets) {
        FlyerRoom x = new FlyerRoom();
        for (int offset : offsets) x.sensor(0, offset, 0, 0);
        x.fly(1);
        return x.sensed(0);
    }

    private static void middles() {
        due.sentence("VOTED of a sort: in order the middle one, or half of both middle ones together, cut; 0 without any");
        due.is("none", middleOf(), 0);
        due.is("one", middleOf(-7), -7);
        due.is("two", middleOf(3, 0), 1);
        due.is("two below 0", middleOf(-3, 0), -1);
        due.is("two that are 0 together", middleOf(-3, 3), 0);
        due.is("two that are -1 together", middleOf(-4, 3), 0);
        due.is("three", middleOf(9, -9, 1), 1);
        due.is("like ones", middleOf(5, 5, 900), 5);
        due.is("four", middleOf(100, 3, -100, 4), 3);
        due.is("five", middleOf(5, 4, 3, 2, 1), 3);
        due.is("six", middleOf(6, 1, 5, 2, 4, 3), 3);
        due.is("six below 0", middleOf(-6, -1, -5, -2, -4, -3), -3);
        FlyerRoom x = new FlyerRoom();
        for (int i = 0; i < 6; i++) x.sensor(1, 10 * i, 0, 0);
        x.fly(1);
        due.is("of the other sort, none", x.sensed(0), 0);
        due.is("of this sort, six", x.sensed(1), 25);
    }

    private static void slowTicks() {
        due.sentence("a SLOW one has one tick fewer in each SLOT");
        FlyerRoom x = new FlyerRoom();
        x.lanes(2);
        for (int i = 0; i < 3; i++) x.step(1, i, i, 11);
        x.part(0, 0, 3);
        x.part(1, 0, 1);
        x.slot(0, 0, 3);
        x.slot(0, 3, 4);
        x.slot(1, 7, 1);
        x.slot(2, 8, 1);
        x.harm(0, 0, 0, 11, 0);
        x.harm(0, 0, 1, 11, 0);
        x.harm(4, 0, 1, 0, 0);
        x.fly(1);
        due.is("the swift one: three, three and one", x.cell(0, 0), 3);
        due.is("the slow one: two, three and none", x.cell(1, 0), 2);
        due.is("the swift one's last step", x.cell(0, 2), 2);
        due.is("the slow one's last step", x.cell(1, 2), 1);
        due.is("it fails in the first and the third, not in the empty part", x.now(7), 2);
    }

    /** Lanes of which some say (bits), some are mute (bits); the last frame's answer about word 0. */
    private static FlyerRoom said(int lanes, int kind, int sayers, int mutes, int... numbers) {
        FlyerRoom x = Due.runners(lanes, 3, s(7, 1, 1, 0), s(9, 0, 0, 0));
        x.word(0, kind, 0);
        int[][] flips = new int[8][];
        int told = 0;
        for (int lane = 0; lane < lanes; lane++) {
            if ((sayers >> lane & 1) == 0) flips[told++] = new int[] {0, lane, 1, 0};
            if ((mutes >> lane & 1) == 1) flips[told++] = new int[] {3, lane, 0, 0};
            if (lane < numbers.length && numbers[lane] >= 0) flips[told++] = new int[] {0, lane, 0, numbers[lane]};
        }
        for (int i = 0; i < told; i++) x.harm(flips[i][0], 0, flips[i][1], flips[i][2], flips[i][3]);
        x.fly(1);
        return x;
    }

    private static void mostSaid() {
        due.sentence("0 ALIKE: the number that most said, if more than half of those that are IN and not MUTE (of all these) did");
        due.is("1 of 1", said(1, 0, 1, 0).voted(0, 1), 1);
        due.is("0 of 1", said(1, 0, 0, 0).voted(0, 1), 0);
        due.is("1 of 2", said(2, 0, 1, 0).voted(0, 1), 0);
        due.is("2 of 2", said(2, 0, 3, 0).voted(0, 1), 1);
        due.is("1 and 1 of 2", said(2, 0, 3, 0, 4, -1).voted(0, 1), 0);
        due.is("1 of 3", said(3, 0, 4, 0).voted(0, 1), 0);
        due.is("2 of 3", said(3, 0, 5, 0).voted(0, 1), 1);
        due.is("1 and 1 and 1 of 3", said(3, 0, 7, 0, 1, 2, 3).voted(0, 1), 0);
        due.is("2 of 4", said(4, 0, 3, 0).voted(0, 1), 0);
        due.is("2 and 2 of 4", said(4, 0, 15, 0, 1, 1, 2, 2).voted(0, 1), 0);
        due.is("2 and 1 and 1 of 4", said(4, 0, 15, 0, 1, 1, 2, 3).voted(0, 1), 0);
        due.is("3 of 4", said(4, 0, 7, 0).voted(0, 1), 1);
        due.is("3 and 1 of 4", said(4, 0, 15, 0, -1, -1, 5, -1).voted(0, 1), 1);
        due.is("2 of 3 beside a mute one", said(4, 0, 7, 8, 1, 1, 2).voted(0, 0), 2);
        due.is("2 of 4 were too few, 2 of 2 beside two mute ones", said(4, 0, 15, 12, 1, 1).voted(0, 0), 2);
        due.is("1 of 1 beside three mute ones", said(4, 0, 15, 14, 6).voted(0, 0), 64);
        due.is("all mute", said(2, 0, 3, 3).voted(0, 1), 0);
        FlyerRoom x = Due.sayers(4);
        x.aside(1, 50);
        x.harm(0, 0, 3, 0, 2);
        x.harm(0, 1, 0, 0, 1);
        x.harm(0, 1, 1, 0, 1);
        x.fly(2);
        due.is("2 of 3 beside one aside", x.voted(0, 0), 2);
    }

    private static void middleSaid() {
        due.sentence("1 MIDDLE: the MIDDLE of those said (none, if nobody did)");
        due.is("nobody of 3", said(3, 1, 0, 0).voted(0, 1), 0);
        due.is("nobody of 3: 0", said(3, 1, 0, 0).voted(0, 0), 0);
        due.is("1 of 4", said(4, 1, 4, 0, 1, 1, 5, 1).voted(0, 0), 32);
        due.is("2 of 4", said(4, 1, 6, 0, 1, 3, 5, 1).voted(0, 0), 20);
        due.is("3 of 4", said(4, 1, 7, 0, 1, 3, 5, 4).voted(0, 0), 8);
        due.is("4 of 4", said(4, 1, 15, 0, 1, 3, 5, 4).voted(0, 0), 12);
        due.is("all who say it are mute", said(2, 1, 3, 3).voted(0, 1), 0);
        // The numbers are ints of any size, and their middle is no int's sum.
        due.is("MIN and MIN", said(2, 1, 3, 0, 31, 31).voted(0, 0), MIN);
        FlyerRoom x = Due.runners(2, 2, s(0, 0, MAX, 0), s(9, 0, 0, 0));
        x.word(0, 1, 0);
        x.fly(1);
        due.is("MAX and MAX", x.voted(0, 0), MAX);
    }

    private static FlyerRoom apart(int kind, int span, int first, int... bits) {
        FlyerRoom x = Due.runners(3, 3, s(0, 1, first, 0), s(1, 2, 0, 1), s(9, 2, 0, 0));
        x.word(0, kind, span);
        for (int lane = 0; lane < bits.length; lane++) {
            if (bits[lane] >= 0) x.harm(0, 0, lane, 0, bits[lane]);
        }
        x.fly(1);
        return x;
    }

    private static void differs() {
        due.sentence("a LANE (IN, not MUTE) DIFFERS that did not say it, or whose number is unlike (ALIKE), or more than SPAN away from it (MIDDLE)");
        due.is("ALIKE, did not say it", said(3, 0, 3, 0).now(6), 4);
        due.is("MIDDLE, did not say it", said(3, 1, 5, 0).now(6), 2);
        due.is("MIDDLE, did not say it, and the middle is 0", said(3, 1, 1, 0).now(6), 6);
        due.is("without a result nobody", said(3, 0, 1, 0).now(6), 0);
        due.is("ALIKE, unlike by one", apart(0, 100000, 0, 0).now(6), 1);
        due.is("ALIKE, unlike by the top bit", apart(0, 100000, 0, -1, 31).now(6), 2);
        due.is("MIDDLE, just SPAN above", apart(1, 16, 0, -1, -1, 4).now(6), 0);
        due.is("MIDDLE, more above", apart(1, 15, 0, -1, -1, 4).now(6), 4);
        due.is("MIDDLE, just SPAN below", apart(1, 16, -16, 4, 4).now(6), 0);
        due.is("MIDDLE, more below", apart(1, 15, -16, 4, 4).now(6), 4);
        due.is("MIDDLE, SPAN 0, by one", apart(1, 0, 0, 0).now(6), 1);
        due.is("MIDDLE, SPAN 0, all alike", apart(1, 0, 0).now(6), 0);
        due.is("MIDDLE, SPAN 100000", apart(1, 100000, 0, 16).now(6), 0);
        due.is("MIDDLE, more than 100000", apart(1, 100000, 0, 17).now(6), 1);
        // MIN and 0 and MAX: both are farther from 0 than any SPAN, whatever an int's size of MIN is.
        FlyerRoom x = Due.runners(3, 3, s(0, 1, 0, 0), s(9, 0, 0, 0));
        x.word(0, 1, 100000);
        x.harm(0, 0, 1, 0, 31);
        for (int bit = 30; bit > 26; bit--) x.harm(0, 0, 2, 0, bit);
        x.fly(1);
        due.is("far on both sides", x.now(6), 6);
        // -2147483648 and 2013265920: the middle is -67108864, and both are some two milliards away from it.
        FlyerRoom y = Due.sayers(2);
        y.word(0, 1, 100000);
        y.harm(0, 0, 0, 0, 31);
        for (int bit = 30; bit > 26; bit--) y.harm(0, 0, 1, 0, bit);
        y.fly(1);
        due.is("the middle of far ones", y.voted(0, 0), -67108864);
        due.is("both differ", y.now(6), 3);
        FlyerRoom z = Due.runners(2, 9, s(9, 0, 0, 0), s(9, 1, 5, 0));
        z.harm(0, 0, 1, 1, 1);
        z.word(5, 1, 0);
        z.fly(1);
        due.is("in one word of several: 0 and 2 are both away from 1", z.now(6), 3);
    }

    private static void mutesDiffer() {
        due.sentence("MUTE ones that are IN DIFFER in each FRAME in which some WORD has a result");
        due.is("a result", said(3, 0, 7, 4).now(6), 4);
        due.is("a result, two mute ones", said(3, 0, 7, 6).now(6), 6);
        due.is("no result", said(3, 0, 0, 4).now(6), 0);
        due.is("a result that some differ from", said(4, 0, 15, 8, 1, 1, 2).now(6), 12);
        FlyerRoom last = Due.runners(2, 1, s(9, 0, 7, 0));
        last.harm(3, 0, 0, 0, 0);
        last.fly(1);
        due.is("a result of WORD 7 alone", last.now(6), 1);
        FlyerRoom aside = Due.sayers(3);
        aside.aside(1, 50);
        aside.harm(3, 0, 1, 0, 0);
        aside.fly(2);
        due.is("a mute one that is aside does not", aside.now(6), 0);
    }

    private static void rows() {
        due.sentence("(f) A LANE that DIFFERS in a FRAME has one more in its row, else 0");
        FlyerRoom x = Due.sayers(3);
        x.aside(20, 1);
        x.harm(0, 0, 1, 0, 4);
        x.harm(0, 2, 1, 0, 4);
        x.harm(0, 3, 1, 0, 4);
        int[] want = {1, 2, 0, 1, 2, 3};
        for (int i = 0; i < want.length; i++) {
            x.fly(1);
            due.is("behind FRAME " + i, x.lane(1, 1), want[i]);
        }
        due.is("another lane's", x.lane(0, 1), 0);
    }

    private static void kFrames() {
        due.sentence("with K (1 .. 20; 3 at first) or more in its row it is ASIDE");
        for (int k = 0; k <= 20; k++) {
            FlyerRoom x = Due.sayers(3);
            // K is told but where it is as at first.
            if (k > 0) x.aside(k, 50);
            int frames = k > 0 ? k : 3;
            x.harm(0, 0, 1, 0, 4);
            if (frames > 1) x.fly(frames - 1);
            due.is("K " + frames + ", one fewer", x.lane(1, 0), 1);
            x.fly(1);
            due.is("K " + frames, x.lane(1, 0), 0);
            due.is("K " + frames + ", its row", x.lane(1, 1), frames);
            due.is("K " + frames + ", the others", x.now(5), 2);
        }
        FlyerRoom y = Due.sayers(3);
        y.aside(20, 50);
        y.harm(0, 0, 1, 0, 4);
        y.fly(7);
        y.aside(2, 50);
        due.is("telling puts nobody aside", y.lane(1, 0), 1);
        y.fly(1);
        due.is("more than K", y.lane(1, 0), 0);
        FlyerRoom z = Due.sayers(3);
        z.aside(20, 50);
        z.harm(0, 0, 1, 0, 4);
        z.harm(0, 7, 1, 0, 4);
        z.fly(7);
        z.aside(2, 50);
        z.fly(1);
        due.is("it differs no more", z.lane(1, 0), 1);
    }

    private static void lastOneIn() {
        due.sentence("(by numbers; unless it is the last one IN)");
        // Three mute lanes and one that says: all but lane 1 differ.
        FlyerRoom x = Due.sayers(4);
        x.aside(1, 50);
        for (int lane = 0; lane < 4; lane++) {
            if (lane != 1) x.harm(3, 0, lane, 0, 0);
        }
        x.fly(1);
        due.is("one does not differ", x.now(5), 1);
        due.is("and is in", x.lane(1, 0), 1);
        // The middle of 0 and 16: both differ.
        FlyerRoom two = Due.sayers(2);
        two.word(0, 1, 0);
        two.aside(2, 50);
        two.harm(0, 0, 0, 0, 4);
        two.fly(1);
        due.is("K not yet", two.now(5), 2);
        two.fly(1);
        due.is("the first by numbers goes", two.lane(0, 0), 0);
        due.is("the last one stays", two.lane(1, 0), 1);
        due.is("with its row", two.lane(1, 1), 2);
        two.fly(1);
        due.is("alone it does not differ", two.lane(1, 1), 0);
        // Three lanes: word 0's middle is lane 1's, word 1's is lane 2's: all differ.
        FlyerRoom three = Due.runners(3, 2, s(9, 0, 0, 0), s(9, 1, 1, 0));
        three.word(0, 1, 0);
        three.word(1, 1, 0);
        three.aside(1, 50);
        three.harm(0, 0, 1, 0, 1);
        three.harm(0, 0, 2, 0, 2);
        three.harm(0, 0, 2, 1, 1);
        three.harm(0, 0, 1, 1, 2);
        three.fly(1);
        due.is("all differ", three.now(6), 7);
        due.is("only the last is in", three.now(5), 1);
        due.is("that is lane 2", three.lane(2, 0), 1);
        FlyerRoom one = Due.runners(1, 1, s(9, 0, 0, 0));
        one.aside(1, 1);
        one.harm(3, 0, 0, 0, 0);
        one.fly(20);
        due.is("one lane is always in", one.lane(0, 0), 1);
    }

    private static void movers() {
        due.sentence("(g) THE MOVER's word: that of WORD 0, if it has a result, else what it was (0 at first)");
        FlyerRoom x = Due.sayers(2);
        x.harm(0, 2, 0, 0, 3);
        x.harm(0, 4, 1, 0, 3);
        due.is("at first", x.now(2), 0);
        due.is("a result that is 0", x.fly(2), 0);
        due.is("no result", x.fly(2), 0);
        due.is("a result", x.fly(1), 8);
        x.harm(0, 5, 1, 0, 3);
        due.is("no result: what it was", x.fly(3), 8);
        FlyerRoom other = Due.runners(1, 2, s(0, 0, 5, 0), s(9, 0, 1, 0));
        due.is("WORD 1 is not the mover's", other.fly(1), 0);
        due.sentence("brought to the limits of THE MODE (-100 .. 100 at first each)");
        int[] numbers = {-101, -100, -99, 99, 100, 101, MIN, MAX};
        int[] want = {-100, -100, -99, 99, 100, 100, -100, 100};
        for (int mode = 0; mode < 4; mode++) {
            for (int i = 0; i < numbers.length; i++) {
                FlyerRoom y = Due.runners(1, 2, s(0, 0, numbers[i], 0), s(9, 0, 0, 0));
                Due.write(y, "" + mode);
                due.is("mode " + mode + ", " + numbers[i], y.fly(2), want[i]);
            }
        }
        FlyerRoom z = Due.runners(1, 2, s(0, 0, 5000, 0), s(9, 0, 0, 0));
        z.limit(0, -1000, 1000);
        due.is("the widest limit", z.fly(1), 1000);
        z.limit(0, -1000, -1000);
        due.is("the least limit", z.fly(1), -1000);
    }

    private static void bodyFlown(int height, int speed, int drag, int wantHeight, int wantSpeed) {
        FlyerRoom x = new FlyerRoom();
        if (drag > 0) x.air(drag, 0, 0);
        x.body(height, speed);
        x.fly(1);
        due.is("height of " + height + ", " + speed + ", drag " + drag, x.now(0), wantHeight);
        due.is("speed of " + height + ", " + speed + ", drag " + drag, x.now(1), wantSpeed);
    }

    private static void bodies() {
        due.sentence("less SPEED times its size by DRAG (1 .. 1000; 100 at first), cut");
        bodyFlown(5000, 9, 0, 4999, -1);
        bodyFlown(5000, 10, 0, 4999, -1);
        bodyFlown(5000, -9, 0, 4981, -19);
        bodyFlown(5000, -10, 0, 4981, -19);
        bodyFlown(5000, 99, 0, 4991, -9);
        bodyFlown(5000, 100, 0, 4990, -10);
        bodyFlown(5000, 31, 1000, 5021, 21);
        bodyFlown(5000, 32, 1000, 5021, 21);
        bodyFlown(5000, -31, 1000, 4959, -41);
        bodyFlown(5000, -32, 1000, 4959, -41);
        bodyFlown(5000, 3, 1, 4984, -16);
        bodyFlown(5000, -3, 1, 4996, -4);
        due.sentence("HEIGHT becomes HEIGHT and SPEED (both as longs brought to -1000000 .. 1000000); below 0 both are 0");
        bodyFlown(11, 0, 0, 1, -10);
        bodyFlown(10, 0, 0, 0, -10);
        bodyFlown(9, 0, 0, 0, 0);
        bodyFlown(0, 0, 0, 0, 0);
        bodyFlown(0, 11, 1000, 1, 1);
        bodyFlown(0, 10, 1000, 0, 0);
        bodyFlown(999999, 12, 1000, 1000000, 2);
        bodyFlown(999998, 12, 1000, 1000000, 2);
        bodyFlown(1000000, 12, 1000, 1000000, 2);
        bodyFlown(1000000, 1000000, 1, 0, -1000000);
        bodyFlown(999999, 1000000, 1, 0, 0);
        bodyFlown(0, -1000000, 1, 1000000, 1000000);
        bodyFlown(1000000, -1000000, 1, 1000000, 1000000);
        bodyFlown(0, 1000000, 1000, 0, 0);
    }

    private static long bitsOf(int lot) {
        return ((long) lot & 0xFFFFFFFFL) / 65536;
    }

    private static int windAfter(int gust, int lot) {
        FlyerRoom x = new FlyerRoom();
        x.air(1000, gust, lot);
        x.body(1000, 0);
        x.fly(1);
        return x.now(1) + 10;
    }

    private static void winds() {
        due.sentence("the LOT (an int) becomes LOT 1103515245 and 12345, wrapped; its bits 16 on, as a number 0 .. 65535, left over by (2 GUST and 1), less GUST (GUST 0 .. 50; 0 at first)");
        int[] lots = {0, 1, -1, MAX, MIN, 12345, -987654321, 77777777};
        int above = 0;
        for (int lot : lots) {
            int next = (int) (lot * 1103515245L + 12345);
            if (next < 0) above++;
            due.is("no gust, lot " + lot, windAfter(0, lot), 0);
            due.is("gust 1, lot " + lot, windAfter(1, lot), bitsOf(next) % 3 - 1);
            due.is("gust 50, lot " + lot, windAfter(50, lot), bitsOf(next) % 101 - 50);
        }
        due.is("some of these lots become less than 0", above > 0 && above < lots.length ? 1 : 0, 1);
        // The least and the greatest wind there is, each by the first lot from 0 on that brings it.
        int least = 0, greatest = 0;
        for (int lot = 0; lot < 400; lot++) {
            long wind = bitsOf((int) (lot * 1103515245L + 12345)) % 101;
            if (wind == 0 && least++ == 0) due.is("gust 50, the least", windAfter(50, lot), -50);
            if (wind == 100 && greatest++ == 0) due.is("gust 50, the greatest", windAfter(50, lot), 50);
        }
        due.is("both were there", least > 0 && greatest > 0 ? 1 : 0, 1);
        FlyerRoom x = new FlyerRoom();
        FlyerRoom y = new FlyerRoom();
        x.air(100, 0, MAX);
        x.fly(1);
        y.fly(1);
        y.air(100, 0, (int) (MAX * 1103515245L + 12345));
        due.is("the lot becomes, though there is no gust", x.digest(), y.digest());
    }

    private static void mFrames() {
        due.sentence("(i) A LANE that was ASIDE ahead of this FRAME has one FRAME more so; with M (1 .. 50; 5 at first) it comes IN");
        for (int m : new int[] {0, 1, 2, 5, 49, 50}) {
            FlyerRoom x = Due.sayers(3);
            // M is told but where it is as at first, and then K is as at first, too.
            if (m > 0) x.aside(1, m);
            int frames = m > 0 ? m : 5;
            x.harm(0, 0, 1, 0, 4);
            x.fly(m > 0 ? 1 : 3);
            due.is("M " + frames + ", put aside", x.lane(1, 0), 0);
            due.is("M " + frames + ", none yet", x.lane(1, 2), 0);
            if (frames > 1) x.fly(frames - 1);
            due.is("M " + frames + ", one fewer", x.lane(1, 0), 0);
            due.is("M " + frames + ", how many", x.lane(1, 2), frames - 1);
            due.is("M " + frames + ", its cell is its own", x.cell(1, 0), 16);
            x.fly(1);
            due.is("M " + frames, x.lane(1, 0), 1);
            due.is("M " + frames + ", its row", x.lane(1, 1), 0);
            due.is("M " + frames + ", its cell is copied", x.cell(1, 0), 0);
        }
    }

    private static void leastLaneIn() {
        due.sentence("its CELLS those of the least LANE that is IN then (its row 0)");
        // Each lane has a mark of its own in cell 7; lanes 0 and 1 go aside at once and come back at once.
        FlyerRoom x = Due.sayers(4);
        x.aside(1, 2);
        x.word(0, 1, 0);
        for (int lane = 0; lane < 4; lane++) x.harm(0, 0, lane, 7, lane);
        x.harm(0, 0, 0, 0, 5);
        x.harm(3, 0, 1, 0, 0);
        x.fly(1);
        due.is("lanes 2 and 3 are in", x.now(5), 2);
        x.fly(2);
        due.is("all are in", x.now(5), 4);
        due.is("lane 0, of lane 2", x.cell(0, 7), 4);
        due.is("lane 1, of the same", x.cell(1, 7), 4);
        due.is("lane 3 keeps its own", x.cell(3, 7), 8);
        due.is("all cells", x.cell(0, 0), 0);
        // Lane 0 is put aside in the very frame in which lane 2 comes in: the least that is in then is lane 1.
        FlyerRoom y = Due.sayers(4);
        y.aside(1, 1);
        for (int lane = 0; lane < 4; lane++) y.harm(0, 0, lane, 7, lane);
        y.harm(0, 0, 2, 0, 4);
        y.harm(0, 1, 0, 0, 4);
        y.fly(2);
        due.is("lane 0 is aside", y.lane(0, 0), 0);
        due.is("lane 2 is in", y.lane(2, 0), 1);
        due.is("lane 2, of lane 1", y.cell(2, 7), 2);
        y.fly(1);
        due.is("lane 0, of lane 1", y.cell(0, 7), 2);
    }

    private static void modes() {
        due.sentence("(j) THE MODE (0 .. 3): what the RULES tell, brought to 0 .. 3");
        String[] texts = {"-1", "0", "1", "2", "3", "4", "999999", "-999999", "999999*999999*999999"};
        int[] want = {0, 0, 1, 2, 3, 3, 3, 0, 3};
        for (int i = 0; i < texts.length; i++) {
            FlyerRoom x = new FlyerRoom();
            Due.write(x, texts[i]);
            due.is("no call but fly, " + texts[i], x.now(3), 0);
            x.fly(1);
            due.is(texts[i], x.now(3), want[i]);
        }
        due.sentence("without RULES, or with a FAULT, it stays");
        FlyerRoom y = new FlyerRoom();
        Due.write(y, "2");
        y.fly(1);
        y.erase();
        y.fly(1);
        due.is("without RULES", y.now(3), 2);
        Due.write(y, "1+");
        y.fly(1);
        due.is("a FAULT", y.now(3), 2);
        Due.write(y, "0");
        y.fly(1);
        due.is("the FAULT is mended", y.now(3), 1);
        y.erase();
        Due.write(y, "   ");
        y.fly(1);
        due.is("blanks alone", y.now(3), 1);
        due.sentence("The FRAME's number is one more.");
        due.is("now(4)", y.now(4), 5);
        y.fly(100);
        due.is("now(4)", y.now(4), 105);
    }

    private static void modeAsLast() {
        due.sentence("A FRAME of the flight, in this order");
        FlyerRoom x = new FlyerRoom();
        x.body(100, 15);
        Due.write(x, "(h=103)+2*(v=3)");
        x.fly(1);
        due.is("(j) tells of the body as (h) left it", x.now(3), 3);
        FlyerRoom y = Due.sayers(3);
        y.aside(1, 1);
        Due.write(y, "n");
        y.harm(0, 0, 1, 0, 4);
        y.fly(1);
        due.is("n behind (f)", y.now(3), 2);
        y.fly(1);
        due.is("n behind (i)", y.now(3), 3);
        FlyerRoom z = Due.runners(1, 2, s(0, 0, 50, 0), s(9, 0, 0, 0));
        Due.write(z, "1");
        z.limit(1, 7, 7);
        due.is("(g) by the mode ahead of (j)", z.fly(1), 50);
        due.is("and by that one in the next frame", z.fly(1), 7);
        FlyerRoom u = new FlyerRoom();
        u.sensor(0, 0, 16, 0);
        u.body(1000, 0);
        u.fly(1);
        due.is("(c) ahead of (h), by the number as it was", u.sensed(0), 1000);
    }

    public static void main(String[] args) {
        beginsFirst();
        faultsAheadOfSensors();
        drifts();
        middles();
        slowTicks();
        mostSaid();
        middleSaid();
        differs();
        mutesDiffer();
        rows();
        kFrames();
        lastOneIn();
        movers();
        bodies();
        winds();
        mFrames();
        leastLaneIn();
        modes();
        modeAsLast();
        due.end();
    }
}
