/** Promises 35 to 38: image, from, count, digest. */
public final class ImagesTest {
    private static final Due due = new Due();
    private static final int MAX = Integer.MAX_VALUE, MIN = Integer.MIN_VALUE;

    /** A flight in which every kind of thing has been told and flown. */
    private static FlyerRoom rich() {
        FlyerRoom x = new FlyerRoom();
        fillAsRich(x);
        return x;
    }

    private static void fillAsRich(FlyerRoom x) {
        x.lanes(4);
        x.sensor(0, 3, 5, 10);
        x.sensor(0, -3, -5, 10);
        x.sensor(1, 1, 1, 1);
        x.step(8, 0, 0, 0);
        x.step(1, 1, 1, 0);
        x.step(9, 1, 0, 0);
        x.step(9, 0, 3, 0);
        x.part(0, 0, 4);
        x.slot(0, 4, 5);
        x.word(0, 1, 50);
        x.word(3, 0, 0);
        x.aside(2, 7);
        x.body(300, 5);
        x.air(200, 9, 4711);
        x.limit(0, -300, 300);
        x.limit(1, -30, 40);
        Due.write(x, "h>200");
        x.harm(0, 1, 2, 1, 20);
        x.harm(2, 3, 1, 0, 0);
        x.harm(3, 4, 0, 0, 0);
        x.harm(4, 5, 1, 0, 0);
        x.piece(0, 5, 1, 0);
        x.piece(9, 5, 0, 0);
        x.begin(12, x.seal(1));
        x.box(30);
        x.clock(1, 500, 3);
        x.fly(6);
    }

    /** All answers that tell something, in one number. */
    private static long all(FlyerRoom x) {
        long h = x.digest();
        for (int lane = 0; lane < 4; lane++) {
            for (int word = 0; word < 8; word++) h = 31 * h + x.voted(word, 2 + lane);
            for (int what = 0; what < 4; what++) h = 31 * h + x.fate(lane, 1, 3, 10, what);
        }
        for (int what = 0; what < 3; what++) h = 31 * (31 * h + x.guess(0, what)) + x.guess(1, what);
        return 31 * (31 * (31 * h + x.fault()) + x.cause()) + x.near(7);
    }

    /** Everything is told otherwise than before. */
    private static void spoil(FlyerRoom x) {
        x.part(0, 0, 1);
        x.unslot();
        x.slot(1, 0, 40);
        x.word(0, 0, 1);
        x.word(3, 1, 3);
        x.aside(9, 9);
        x.sensor(0, 100, 0, 0);
        x.body(7, 7);
        x.air(1, 50, 1);
        for (int mode = 0; mode < 4; mode++) x.limit(mode, 1, 2);
        x.erase();
        Due.write(x, "3");
        x.harm(0, 7, 0, 0, 0);
        x.leave();
        x.piece(0, 0, 1, 0);
        x.box(1);
        x.clock(0, 9, 9);
        x.clock(1, 9, 9);
    }

    private static void images() {
        due.promise(35);
        FlyerRoom x = rich();
        int[] bad = {-1, 2, MAX, MIN};
        for (int i : bad) due.is("image(" + i + ")", x.image(i), -2);
        due.promise(36);
        for (int i : bad) due.is("from(" + i + ")", x.from(i), -2);
        due.is("from(0), none kept", x.from(0), -3);
        due.is("image(1)", x.image(1), 1);
        due.is("from(0), still none", x.from(0), -3);
        long kept = all(x);
        spoil(x);
        due.is("spoilt", all(x) == kept ? 1 : 0, 0);
        due.is("image(0)", x.image(0), 1);
        long spoilt = all(x);
        due.is("from(1)", x.from(1), 1);
        due.is("all as kept", all(x), kept);
        x.fly(9);
        long later = all(x);
        due.is("from(1) again", x.from(1), 1);
        x.fly(9);
        due.is("it goes on as it did", all(x), later);
        FlyerRoom y = rich();
        y.fly(9);
        due.is("and as a flight without an image", all(y), later);
        due.is("from(0)", x.from(0), 1);
        due.is("the other image", all(x), spoilt);
        due.promise(35);
        due.is("image(1), kept anew", x.image(1), 1);
        x.fly(3);
        x.from(1);
        due.is("as kept anew", all(x), spoilt);
        x.fly(20);
        x.from(0);
        due.is("images are not kept in images, nor changed by flying on", all(x), spoilt);
    }

    /** A flight that has nothing in common with the rich one. */
    private static void tellOther(FlyerRoom x) {
        x.lanes(2);
        for (int i = 0; i < 6; i++) x.sensor(1 - i % 2, 50 + i, 7 - i, 90 * i);
        int[][] steps = {{0, 2, 7, 5}, {4, 3, 2, 9}, {6, 4, 1, 2}, {9, 4, 1, 8}, {1, 5, 5, 2}, {9, 5, 0, 3}};
        for (int[] s : steps) x.step(s[0], s[1], s[2], s[3]);
        x.part(0, 3, 6);
        x.part(1, 0, 3);
        x.slot(1, 20, 2);
        x.slot(0, 0, 9);
        x.slot(1, 11, 2);
        x.aside(1, 1);
        x.limit(0, -7, 9);
        x.limit(1, 3, 4);
        Due.write(x, "1-m");
        int[][] harms = {{2, 0, 5, 0, 0}, {4, 2, 1, 0, 0}, {1, 7, 1, 5, 3}, {0, 8, 0, 5, 2}, {3, 9, 0, 0, 0}, {2, 1, 4, 0, 0}};
        for (int[] h : harms) x.harm(h[0], h[1], h[2], h[3], h[4]);
        x.piece(2, 9, 8, 7);
        x.box(4);
        x.box(3);
        x.fly(5);
    }

    /** What an image brings back shows whatever stood there, whether more or less, now and as it flies on. */
    private static void imagesOfOtherFlights() {
        due.promise(36);
        FlyerRoom other = new FlyerRoom();
        tellOther(other);
        FlyerRoom x = rich();
        FlyerRoom y = new FlyerRoom();
        y.image(0);
        tellOther(y);
        y.image(1);
        y.from(0);
        due.is("as new", all(y), all(new FlyerRoom()));
        fillAsRich(y);
        y.image(0);
        due.is("rich", all(y), all(x));
        for (int i = 0; i < 4; i++) {
            y.from(1);
            other = new FlyerRoom();
            tellOther(other);
            due.is("the other flight", all(y), all(other));
            y.fly(i + 1);
            other.fly(i + 1);
            due.is("the other flight, " + (i + 1) + " on", all(y), all(other));
            y.from(0);
            x = rich();
            due.is("the rich flight", all(y), all(x));
            y.fly(2 * i + 2);
            x.fly(2 * i + 2);
            due.is("the rich flight, " + (2 * i + 2) + " on", all(y), all(x));
        }
        y.from(1);
        due.is("slots as they stood, which end at 9, 13 and 22: slot(2, 8, 1)", y.slot(2, 8, 1), -3);
        due.is("slot(2, 12, 1)", y.slot(2, 12, 1), -3);
        due.is("slot(2, 21, 1)", y.slot(2, 21, 1), -3);
        due.is("slot(2, 22, 18)", y.slot(2, 22, 18), 3);
        due.is("slot(2, 9, 2)", y.slot(2, 9, 2), 4);
        FlyerRoom k = Due.sayers(3);
        k.aside(5, 1);
        k.image(0);
        k.aside(1, 9);
        k.from(0);
        k.harm(0, 0, 1, 0, 0);
        k.fly(4);
        due.is("K as it stood, four frames", k.lane(1, 0), 1);
        k.fly(1);
        due.is("K as it stood, five", k.lane(1, 0), 0);
        k.fly(1);
        due.is("M as it stood", k.lane(1, 0), 1);
        // What was said in the kept frame is gone in the next, in which nobody says anything.
        FlyerRoom z = Due.sayers(3);
        z.harm(1, 0, 0, 0, 5);
        z.fly(1);
        z.image(0);
        z.unslot();
        z.fly(1);
        z.from(0);
        due.is("voted(0, 2)", z.voted(0, 2), 32);
        z.unslot();
        z.fly(1);
        due.is("voted(0, 2), nothing said", z.voted(0, 2), 0);
    }

    private static void fromTheBeginning() {
        due.promise(36);
        FlyerRoom x = new FlyerRoom();
        x.image(0);
        x.step(0, 0, 1, 0);
        x.lanes(4);
        x.fly(3);
        due.is("from(0)", x.from(0), 1);
        due.is("count(0)", x.count(0), 3);
        due.is("count(1)", x.count(1), 0);
        due.is("now(5)", x.now(5), 3);
        due.is("FRAME 0 is yet to come: step", x.step(0, 0, 1, 0), 0);
        due.is("lanes(2)", x.lanes(2), 1);
        due.is("harm(0, 0, ..)", x.harm(0, 0, 0, 0, 0), 0);
    }

    private static void count() {
        due.promise(37);
        FlyerRoom x = rich();
        int[] bad = {-1, 8, MAX, MIN};
        for (int what : bad) due.is("count(" + what + ")", x.count(what), -2);
        int[] want = {4, 4, 1, 3, 4, 5, 2, 1};
        for (int what = 0; what < 8; what++) due.is("count(" + what + ")", x.count(what), want[what]);
        x.fly(7);
        due.is("count(1), the new program", x.count(1), 2);
        due.is("count(6), the old one", x.count(6), 4);
    }

    private static long digestOf(FlyerRoom x, int lot) {
        long h = 311;
        for (int i = 0; i < 8; i++) h = 31 * h + x.count(i);
        for (int i = 0; i < 8; i++) h = 31 * h + x.now(i);
        for (int lane = 0; lane < x.count(0); lane++) {
            for (int i = 0; i < 5; i++) h = 31 * h + x.lane(lane, i);
            for (int i = 0; i < 12; i++) h = 31 * h + x.cell(lane, i);
        }
        for (int word = 0; word < 8; word++) h = 31 * (31 * h + x.voted(word, 0)) + x.voted(word, 1);
        h = 31 * (31 * h + x.sensed(0)) + x.sensed(1);
        h = 31 * (31 * h + x.seal(0)) + x.seal(1);
        return 31 * h + lot;
    }

    private static void digest() {
        due.promise(38);
        due.is("digest(), new", new FlyerRoom().digest(), digestOf(new FlyerRoom(), 0));
        FlyerRoom x = rich();
        int lot = 4711;
        for (int i = 0; i < 6; i++) lot = lot * 1103515245 + 12345;
        due.is("digest(), flown", x.digest(), digestOf(x, lot));
        x.air(100, 0, -5);
        due.is("digest(), the lot told", x.digest(), digestOf(x, -5));
        long before = x.digest();
        x.fly(0);
        x.body(-1, 0);
        x.lanes(1);
        x.step(0, 0, 0, 0);
        x.begin(12, 0);
        x.harm(0, 0, 0, 0, 0);
        x.slot(0, 4, 1);
        x.from(1);
        due.is("what is refused changes nothing", x.digest(), before);
        for (int lanes = 1; lanes <= 4; lanes++) {
            FlyerRoom y = Due.sayers(lanes);
            y.fly(1);
            due.is("digest(), " + lanes + " lanes", y.digest(), digestOf(y, 12345));
        }
    }

    public static void main(String[] args) {
        images();
        imagesOfOtherFlights();
        fromTheBeginning();
        count();
        digest();
        due.end();
    }
}
