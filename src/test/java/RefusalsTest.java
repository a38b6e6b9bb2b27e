import java.lang.reflect.Method;
import java.util.ArrayList;
import java.util.Arrays;
import java.util.List;

/**
 * "Refused, changing nothing, the first of: BAD -2 a number is not as told; NO -3 as told; FULL -4." Each number of
 * each call is told too small by one, too large by one and far off, and just as small and as large as it may be.
 */
public final class RefusalsTest {
    private static final Due due = new Due();
    private static final int MAX = Integer.MAX_VALUE, MIN = Integer.MIN_VALUE;
    private static final int BAD = -2, NO = -3, FULL = -4;
    // A number that may be any: it has no edge.
    private static final int[] ANY = null;

    /**
     * Frame 0, three lanes, everything told so that it shows as frames go by: each lane says each word with a number
     * of its own, each part counts in a cell of its own, a mute lane goes aside and comes back, all modes come.
     */
    private static FlyerRoom told() {
        FlyerRoom x = new FlyerRoom();
        x.step(8, 0, 0, 0);
        x.step(1, 2, 0, 10);
        for (int word = 0; word < 8; word++) x.step(9, 2, word, 0);
        x.step(0, 11, 4, 0);
        for (int part = 1; part < 6; part++) x.step(1, 4 + part, 4 + part, 11);
        x.part(0, 0, 11);
        for (int part = 1; part < 6; part++) x.part(part, 10 + part, 11 + part);
        for (int part = 0; part < 6; part++) x.slot(part, part == 0 ? 0 : 15 + 3 * part, part == 0 ? 12 : 2);
        x.sensor(0, 3, 5, 10);
        x.sensor(1, -4, -7, 20);
        for (int word = 0; word < 8; word++) x.word(word, (word + 1) % 2, 4 + word);
        x.aside(3, 4);
        x.body(500, 40);
        x.air(300, 5, 99);
        for (int mode = 0; mode < 4; mode++) x.limit(mode, -50 - mode, 50 + mode);
        Due.write(x, "(m+1)*(m<3)");
        x.harm(0, 0, 1, 10, 2);
        x.harm(0, 0, 2, 10, 3);
        x.harm(3, 6, 2, 0, 0);
        x.piece(9, 1, 0, 0);
        x.box(3);
        for (int lane = 0; lane < 3; lane++) x.clock(lane, 100 * lane * lane, 7 - lane);
        return x;
    }

    /** The same, flown so far that frames are gone. */
    private static FlyerRoom flown() {
        FlyerRoom x = told();
        x.begin(14, x.seal(1));
        x.fly(5);
        return x;
    }

    /** Everything full, at frame 0. */
    private static FlyerRoom full() {
        FlyerRoom x = told();
        while (x.count(1) < 60) x.step(0, 9, 1, 0);
        while (x.count(2) < 8) x.slot(0, 36 + x.count(2) - 6, 1);
        while (x.count(3) < 6) x.sensor(0, 1, 1, 1);
        while (x.count(4) < 8) x.harm(0, 3, 0, 8, 1);
        while (x.count(5) < 60) x.write(' ');
        while (x.count(6) < 60) x.piece(0, 0, 1, 0);
        while (x.count(7) < 10) x.box(1);
        return x;
    }

    private static FlyerRoom fullAndFlown() {
        FlyerRoom x = full();
        x.fly(5);
        return x;
    }

    /** All that shows of a flight, now and as it flies on; the flight itself is used up by it. */
    private static List<Long> shown(FlyerRoom x) {
        List<Long> all = new ArrayList<>();
        all.add((long) x.fault());
        all.add((long) x.cause());
        for (int n = 0; n < 3; n++) all.add(x.near(n));
        for (int lane = 0; lane < x.count(0); lane++) all.add((long) x.fate(lane, 1, 4, 8, 0));
        for (int what = 0; what < 3; what++) {
            all.add((long) x.guess(0, what));
            all.add((long) x.guess(1, what));
        }
        for (int i = 0; i < 16; i++) {
            all.add(x.digest());
            for (int word = 0; word < 8; word++) {
                for (int lane = 0; lane < x.count(0); lane++) all.add((long) x.voted(word, 2 + lane));
            }
            if (i == 8) x.begin(x.now(4), x.seal(1));
            x.fly(1);
        }
        for (int tick = 0; tick < 40; tick++) all.add((long) x.slot(0, tick, 1));
        all.add((long) x.from(0));
        all.add((long) x.from(1));
        all.add(x.digest());
        return all;
    }

    private static long call(FlyerRoom x, String name, int... numbers) {
        Class<?>[] kinds = new Class<?>[numbers.length];
        Object[] given = new Object[numbers.length];
        for (int i = 0; i < numbers.length; i++) {
            kinds[i] = int.class;
            given[i] = numbers[i];
        }
        try {
            Method method = FlyerRoom.class.getMethod(name, kinds);
            return ((Number) method.invoke(x, given)).longValue();
        } catch (ReflectiveOperationException e) {
            throw new IllegalStateException(name + Arrays.toString(numbers), e);
        }
    }

    private interface Maker {
        FlyerRoom make();
    }

    private static void unchanged(String call, FlyerRoom x, Maker as) {
        due.is(call + " changes nothing", shown(x).equals(shown(as.make())) ? 1 : 0, 1);
    }

    /** These numbers are good; each of them alone is brought to its edges, and out of them by one and by far. */
    private static void edges(Maker maker, String name, long bad, int[] good, int[]... ranges) {
        due.sentence("BAD -2 a number is not as told: " + name);
        FlyerRoom x = maker.make();
        for (int i = 0; i < good.length; i++) {
            int[] numbers = good.clone();
            if (ranges[i] == ANY) {
                for (int any : new int[] {MIN, -1, 0, 1, MAX}) {
                    numbers[i] = any;
                    taken(maker, name, bad, numbers);
                }
                continue;
            }
            for (int off : new int[] {ranges[i][0] - 1, ranges[i][1] + 1, MIN, MAX}) {
                numbers[i] = off;
                due.is(name + Arrays.toString(numbers), call(x, name, numbers), bad);
            }
            for (int edge : ranges[i]) {
                numbers[i] = edge;
                taken(maker, name, bad, numbers);
            }
        }
        unchanged(name, x, maker);
        taken(maker, name, bad, good);
    }

    private static void taken(Maker maker, String name, long bad, int[] numbers) {
        due.is(name + Arrays.toString(numbers) + " is taken", call(maker.make(), name, numbers) == bad ? 0 : 1, 1);
    }

    private static int[] r(int least, int greatest) {
        return new int[] {least, greatest};
    }

    private static int[] n(int... numbers) {
        return numbers;
    }

    private static void badLanes() {
        edges(RefusalsTest::told, "lanes", BAD, n(2), r(1, 4));
        for (String step : new String[] {"step", "piece"}) {
            edges(RefusalsTest::told, step, BAD, n(0, 3, 5, 0), r(0, 10), r(0, 11), ANY, ANY);
            for (int act = 1; act <= 6; act++) {
                edges(RefusalsTest::told, step, BAD, n(act, 3, 5, 6), r(0, 10), r(0, 11), r(0, 11), r(0, 11));
            }
            edges(RefusalsTest::told, step, BAD, n(7, 3, 1, 0), r(0, 10), r(0, 11), r(1, 20), ANY);
            edges(RefusalsTest::told, step, BAD, n(8, 3, 1, 0), r(0, 10), r(0, 11), r(0, 1), ANY);
            edges(RefusalsTest::told, step, BAD, n(9, 3, 1, 0), r(0, 10), r(0, 11), r(0, 7), ANY);
            edges(RefusalsTest::told, step, BAD, n(10, 3, 5, 0), r(0, 10), r(0, 11), r(1, 20), ANY);
        }
        edges(RefusalsTest::flown, "part", BAD, n(2, 10, 20), r(0, 5), r(0, 20), r(10, 60));
        edges(RefusalsTest::flown, "part", BAD, n(2, 60, 60), r(0, 5), r(0, 60), r(60, 60));
        edges(RefusalsTest::flown, "part", BAD, n(2, 0, 0), r(0, 5), r(0, 0), r(0, 60));
        edges(RefusalsTest::flown, "slot", BAD, n(2, 13, 1), r(0, 5), r(0, 39), r(1, 40));
        edges(RefusalsTest::flown, "word", BAD, n(3, 1, 7), r(0, 7), r(0, 1), r(0, 100000));
        edges(RefusalsTest::flown, "aside", BAD, n(5, 6), r(1, 20), r(1, 50));
    }

    private static void badBody() {
        edges(RefusalsTest::flown, "sensor", BAD, n(0, 5, 5, 5), r(0, 1), r(-1000, 1000), r(-100, 100), r(0, 1000));
        edges(RefusalsTest::flown, "body", BAD, n(7, 7), r(0, 1000000), r(-1000000, 1000000));
        edges(RefusalsTest::flown, "air", BAD, n(7, 7, 7), r(1, 1000), r(0, 50), ANY);
        edges(RefusalsTest::flown, "limit", BAD, n(2, -7, 7), r(0, 3), r(-1000, 7), r(-7, 1000));
        edges(RefusalsTest::flown, "limit", BAD, n(2, 1000, 1000), r(0, 3), r(-1000, 1000), r(1000, 1000));
        edges(RefusalsTest::flown, "limit", BAD, n(2, -1000, -1000), r(0, 3), r(-1000, -1000), r(-1000, 1000));
        edges(RefusalsTest::flown, "write", BAD, n(32), r(0, 127));
    }

    private static FlyerRoom withoutZeros() {
        FlyerRoom x = Due.runners(3, 12, Due.s(0, 0, 5, 0), Due.s(0, 11, 5, 0), Due.s(0, 4, 5, 0));
        x.fly(1);
        return x;
    }

    private static void badFlying() {
        edges(RefusalsTest::flown, "fly", -2000, n(3), r(1, 100));
        edges(RefusalsTest::flown, "now", -2000000, n(3), r(0, 7));
        edges(RefusalsTest::withoutZeros, "cell", 0, n(1, 4), r(0, 2), r(0, 11));
        edges(RefusalsTest::flown, "lane", BAD, n(1, 2), r(0, 2), r(0, 4));
        edges(RefusalsTest::flown, "voted", -2000000000, n(1, 2), r(0, 7), r(0, 4));
        edges(RefusalsTest::flown, "sensed", -2000000000, n(1), r(0, 1));
        for (int sort = 0; sort <= 1; sort++) {
            edges(RefusalsTest::flown, "harm", BAD, n(sort, 9, 1, 4, 5), r(0, 4), r(0, 9999), r(0, 2), r(0, 11), r(0, 31));
        }
        edges(RefusalsTest::flown, "harm", BAD, n(2, 9, 1, 4, 5), r(0, 4), r(0, 9999), r(0, 1), ANY, ANY);
        for (int sort = 3; sort <= 4; sort++) {
            edges(RefusalsTest::flown, "harm", BAD, n(sort, 9, 1, 4, 5), r(0, 4), r(0, 9999), r(0, 2), ANY, ANY);
        }
    }

    private static void badProofs() {
        edges(RefusalsTest::flown, "seal", 0, n(1), r(0, 1));
        edges(RefusalsTest::flown, "begin", BAD, n(20, 1), r(0, 9999), ANY);
        edges(RefusalsTest::flown, "fate", -100, n(1, 4, 5, 6, 0), r(0, 2), r(0, 11), r(0, 31), r(1, 20), r(0, 3));
        edges(RefusalsTest::flown, "fates", BAD, n(1, 6, 0), r(0, 2), r(1, 20), r(0, 3));
        edges(RefusalsTest::flown, "box", BAD, n(6), r(-1000, 1000));
        edges(RefusalsTest::flown, "guess", -2000000000, n(1, 1), r(0, 1), r(0, 2));
        edges(RefusalsTest::flown, "clock", BAD, n(1, 1, 1), r(0, 2), r(-1000000, 1000000), r(-1000, 1000));
        edges(RefusalsTest::flown, "near", BAD, n(1), r(0, 100));
        edges(RefusalsTest::flown, "image", BAD, n(1), r(0, 1));
        edges(RefusalsTest::flown, "from", BAD, n(1), r(0, 1));
        edges(RefusalsTest::flown, "count", BAD, n(1), r(0, 7));
    }

    /** A lane is there or not as lanes() told it. */
    private static void badLaneOfEachNumber() {
        for (int lanes = 1; lanes <= 4; lanes++) {
            int there = lanes;
            Maker maker = () -> {
                FlyerRoom x = Due.runners(there, 12, Due.s(0, 0, 5, 0), Due.s(9, 0, 0, 0));
                x.sensor(0, 0, 0, 0);
                x.sensor(1, 0, 0, 0);
                x.fly(1);
                return x;
            };
            edges(maker, "cell", 0, n(0, 0), r(0, lanes - 1), r(0, 0));
            edges(maker, "lane", BAD, n(0, 0), r(0, lanes - 1), r(0, 4));
            edges(maker, "voted", -2000000000, n(0, 0), r(0, 7), r(0, 1 + lanes));
            for (int sort : new int[] {0, 1, 3, 4}) {
                edges(maker, "harm", BAD, n(sort, 9, 0, 0, 0), r(0, 4), r(0, 9999), r(0, lanes - 1),
                    sort < 2 ? r(0, 11) : ANY, sort < 2 ? r(0, 31) : ANY);
            }
            edges(maker, "fate", -100, n(0, 0, 0, 1, 0), r(0, lanes - 1), r(0, 11), r(0, 31), r(1, 20), r(0, 3));
            edges(maker, "fates", BAD, n(0, 1, 0), r(0, lanes - 1), r(1, 20), r(0, 3));
            edges(maker, "clock", BAD, n(0, 1, 1), r(0, lanes - 1), r(-1000000, 1000000), r(-1000, 1000));
        }
    }

    /** A sensor is there or not as sensor() told it. */
    private static void badSensorOfEachNumber() {
        for (int sensors = 1; sensors <= 6; sensors++) {
            int there = sensors;
            Maker maker = () -> {
                FlyerRoom x = new FlyerRoom();
                for (int i = 0; i < there; i++) x.sensor(i % 2, 1, 1, 1);
                return x;
            };
            edges(maker, "harm", BAD, n(2, 9, 0, 0, 0), r(0, 4), r(0, 9999), r(0, sensors - 1), ANY, ANY);
        }
        due.is("harm(2, ..), no sensor is there", new FlyerRoom().harm(2, 0, 0, 0, 0), BAD);
    }

    private static void refused(Maker maker, long answer, String name, int... numbers) {
        FlyerRoom x = maker.make();
        due.is(name + Arrays.toString(numbers), call(x, name, numbers), answer);
        unchanged(name, x, maker);
    }

    private static void noes() {
        due.sentence("NO -3 as told");
        for (int n = 1; n <= 4; n++) refused(RefusalsTest::flown, NO, "lanes", n);
        refused(RefusalsTest::flown, NO, "step", 0, 0, 0, 0);
        refused(RefusalsTest::flown, NO, "slot", 0, 11, 1);
        refused(RefusalsTest::flown, NO, "slot", 0, 39, 2);
        refused(RefusalsTest::flown, NO, "slot", 0, 39, 40);
        refused(RefusalsTest::flown, NO, "harm", 0, 4, 0, 0, 0);
        refused(RefusalsTest::flown, NO, "harm", 2, 0, 0, 0, 0);
        refused(RefusalsTest::flown, NO, "begin", 4, flown().seal(1));
        refused(RefusalsTest::flown, NO, "begin", 20, flown().seal(1) + 1);
        refused(RefusalsTest::flown, NO, "begin", 20, flown().seal(0));
        refused(RefusalsTest::flown, NO, "from", 0);
        refused(RefusalsTest::flown, NO, "from", 1);
        refused(() -> {
            FlyerRoom x = flown();
            x.image(1);
            return x;
        }, NO, "from", 0);
        refused(FlyerRoom::new, -2100000000, "guess", 0, 0);
        refused(FlyerRoom::new, -2100000000, "guess", 1, 2);
    }

    private static void fulls() {
        due.sentence("FULL -4");
        refused(RefusalsTest::full, FULL, "step", 0, 0, 0, 0);
        refused(RefusalsTest::full, FULL, "slot", 0, 38, 1);
        refused(RefusalsTest::full, FULL, "sensor", 0, 0, 0, 0);
        refused(RefusalsTest::full, FULL, "write", '1');
        refused(RefusalsTest::full, FULL, "harm", 0, 3, 0, 0, 0);
        refused(RefusalsTest::full, FULL, "harm", 4, 9999, 2, 0, 0);
        refused(RefusalsTest::fullAndFlown, FULL, "harm", 0, 5, 0, 0, 0);
        refused(RefusalsTest::full, FULL, "piece", 0, 0, 0, 0);
        refused(RefusalsTest::full, FULL, "box", 0);
    }

    private static void theFirstOf() {
        due.sentence("the first of: BAD, NO, FULL");
        refused(RefusalsTest::flown, BAD, "lanes", 5);
        refused(RefusalsTest::full, BAD, "step", 11, 0, 0, 0);
        refused(RefusalsTest::fullAndFlown, BAD, "step", 1, 0, 0, 12);
        refused(RefusalsTest::fullAndFlown, NO, "step", 0, 0, 0, 0);
        refused(RefusalsTest::full, BAD, "slot", 6, 0, 1);
        refused(RefusalsTest::full, BAD, "slot", 0, 0, 41);
        refused(RefusalsTest::full, BAD, "slot", 0, -1, 40);
        refused(RefusalsTest::full, NO, "slot", 0, 0, 1);
        refused(RefusalsTest::full, NO, "slot", 0, 39, 2);
        refused(RefusalsTest::full, BAD, "sensor", 2, 0, 0, 0);
        refused(RefusalsTest::full, BAD, "write", 128);
        refused(RefusalsTest::fullAndFlown, BAD, "harm", 0, 4, 3, 0, 0);
        refused(RefusalsTest::fullAndFlown, BAD, "harm", 0, 4, 0, 12, 0);
        refused(RefusalsTest::fullAndFlown, NO, "harm", 0, 4, 0, 0, 0);
        refused(RefusalsTest::full, BAD, "harm", 5, 3, 0, 0, 0);
        refused(RefusalsTest::full, BAD, "piece", 9, 0, 8, 0);
        refused(RefusalsTest::flown, BAD, "begin", -1, 0);
        refused(RefusalsTest::flown, BAD, "begin", 10000, 0);
        refused(RefusalsTest::full, BAD, "box", 1001);
        refused(FlyerRoom::new, -2000000000, "guess", 0, 3);
        refused(FlyerRoom::new, -2000000000, "guess", 2, 0);
        refused(RefusalsTest::flown, BAD, "from", 2);
    }

    public static void main(String[] args) {
        badLanes();
        badBody();
        badFlying();
        badProofs();
        badLaneOfEachNumber();
        badSensorOfEachNumber();
        noes();
        fulls();
        theFirstOf();
        due.end();
    }
}
