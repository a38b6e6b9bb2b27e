import java.util.ArrayList;
import java.util.List;
import java.util.Random;

/** Promises 1 to 38: long runs of calls by lots, each answer held against PlainRoom's. The lots are always the same. */
public final class ComparedByLotsTest {
    private static final int RUNS = 600, CALLS = 300;

    private final Random lots;
    private final FlyerRoom room = new FlyerRoom();
    private final PlainRoom plain = new PlainRoom();
    private final List<String> told = new ArrayList<>();
    private boolean wrong = false;
    private int dear = 0;
    // A calm run seldom loses its program or its slots.
    private boolean calm = false;

    private ComparedByLotsTest(long seed) {
        lots = new Random(seed);
    }

    private int lot(int least, int greatest) {
        return least + lots.nextInt(greatest - least + 1);
    }

    /** Mostly within, now and then an edge or far off. */
    private int near(int least, int greatest) {
        switch (lots.nextInt(40)) {
            case 0: return least - 1;
            case 1: return greatest + 1;
            case 2: return lots.nextBoolean() ? Integer.MAX_VALUE : Integer.MIN_VALUE;
            case 3: return least;
            case 4: return greatest;
            default: return lot(least, greatest);
        }
    }

    private void same(String call, long got, long want) {
        told.add(call + " " + got);
        if (got == want || wrong) return;
        wrong = true;
        System.out.println("FlyerRoom answers " + got + ", PlainRoom " + want + " behind:");
        for (String line : told) System.out.println("  " + line);
    }

    private int[] someStep() {
        int[] acts = {0, 0, 1, 2, 3, 4, 5, 6, 7, 8, 8, 9, 9, 9, 10};
        int act = acts[lots.nextInt(acts.length)];
        // Few cells, so that steps meet each other's numbers.
        int a = near(0, 5), b = near(0, 5), c = near(0, 5);
        if (act == 0) b = lots.nextInt(5) == 0 ? lots.nextInt() : lot(-40, 40);
        if (act == 7 || act == 10) b = lots.nextInt(3) == 0 ? near(1, 20) : lot(1, 4);
        if (act == 8) b = near(0, 1);
        if (act == 9) b = lots.nextInt(2) == 0 ? 0 : near(0, 7);
        if (act == 0 || act >= 7) c = lots.nextInt(50);
        return new int[] {act, a, b, c};
    }

    private String someRules(int depth) {
        String[] signs = {"|", "&", "<", ">", "=", "+", "-", "*", "/"};
        switch (depth > 3 ? lots.nextInt(3) : lots.nextInt(8)) {
            case 0: return "" + lot(0, 99);
            case 1: return "" + "hvndmf".charAt(lots.nextInt(6));
            case 2: return lots.nextInt(40) == 0 ? "" + lot(100000, 2000000) : "" + lot(0, 4);
            case 3: return "(" + someRules(depth + 1) + ")";
            case 4: return (lots.nextBoolean() ? "!" : "-") + someRules(depth + 1);
            case 5: return " " + someRules(depth + 1) + " ";
            default: return someRules(depth + 1) + signs[lots.nextInt(9)] + someRules(depth + 1);
        }
    }

    private void writeRules() {
        String text = someRules(0);
        if (lots.nextInt(8) == 0) text = "((((((((" + text + "))))))))";
        if (lots.nextInt(20) == 0) text = "(" + text;
        for (int i = 0; i < text.length(); i++) {
            int sign = lots.nextInt(120) == 0 ? lot(0, 127) : text.charAt(i);
            same("write(" + sign + ")", room.write(sign), plain.write(sign));
            same("fault()", room.fault(), plain.fault());
        }
    }

    private void begin() {
        int lanes = lot(1, 4);
        same("lanes(" + lanes + ")", room.lanes(lanes), plain.lanes(lanes));
        int steps = lots.nextInt(4) == 0 ? lot(0, 62) : lot(2, 14);
        for (int i = 0; i < steps; i++) step();
        for (int i = lot(0, 3); i > 0; i--) sensor();
        for (int i = lot(1, 4); i > 0; i--) {
            part();
            slot();
        }
    }

    /** A flight that remembers from frame to frame and says what it remembers, so that flips come to something. */
    private void beginWell() {
        int lanes = Math.min(lot(1, 4), lot(1, 4)), kind = lot(0, 1), span = lot(0, 30);
        same("lanes(" + lanes + ")", room.lanes(lanes), plain.lanes(lanes));
        for (int i = lot(1, 3); i > 0; i--) sensor();
        if (lots.nextBoolean()) tellStep(8, 0, lot(0, 1), 0);
        else tellStep(0, 0, lot(-2, 2), 0);
        tellStep(lot(1, 2), 1, 1, 0);
        if (lots.nextBoolean()) tellStep(0, 3, lot(-3, 3), 0);
        if (lots.nextBoolean()) tellStep(lot(3, 6), 2, 1, 3);
        if (lots.nextBoolean()) tellStep(7, lot(0, 4), lot(1, 2), 0);
        for (int i = lot(-3, 3); i > 0; i--) step();
        tellStep(9, lot(1, 2), 0, 0);
        if (lots.nextBoolean()) tellStep(10, lot(0, 4), lot(1, 4), 0);
        tellStep(9, lot(0, 4), lot(0, 3), 0);
        same("word(0)", room.word(0, kind, span), plain.word(0, kind, span));
        same("limit(0)", room.limit(0, -1000, 1000), plain.limit(0, -1000, 1000));
        same("body", room.body(500, 0), plain.body(500, 0));
        same("part(0, 0, 60)", room.part(0, 0, 60), plain.part(0, 0, 60));
        int ticks = lot(4, 30);
        same("slot(0, 0, " + ticks + ")", room.slot(0, 0, ticks), plain.slot(0, 0, ticks));
        int k = lot(1, 4), m = lot(1, 6);
        same("aside(" + k + ", " + m + ")", room.aside(k, m), plain.aside(k, m));
    }

    private void step() {
        int[] s = someStep();
        tellStep(s[0], s[1], s[2], s[3]);
    }

    private void tellStep(int... s) {
        same("step(" + s[0] + ", " + s[1] + ", " + s[2] + ", " + s[3] + ")",
            room.step(s[0], s[1], s[2], s[3]), plain.step(s[0], s[1], s[2], s[3]));
    }

    private void part() {
        int p = near(0, 2), from = lots.nextInt(3) == 0 ? near(0, 12) : 0, to = near(0, 60);
        same("part(" + p + ", " + from + ", " + to + ")", room.part(p, from, to), plain.part(p, from, to));
    }

    private void slot() {
        int p = near(0, 2), first = near(0, 39), ticks = near(1, lots.nextInt(4) == 0 ? 40 : 12);
        same("slot(" + p + ", " + first + ", " + ticks + ")", room.slot(p, first, ticks), plain.slot(p, first, ticks));
    }

    private void sensor() {
        int sort = near(0, 1), offset = near(-30, 30), drift = near(-40, 40), error = near(0, 40);
        same("sensor(" + sort + ", " + offset + ", " + drift + ", " + error + ")",
            room.sensor(sort, offset, drift, error), plain.sensor(sort, offset, drift, error));
    }

    private void fly(int most) {
        int n = near(1, most);
        same("fly(" + n + ")", room.fly(n), plain.fly(n));
    }

    private void harm() {
        int sort = near(0, 4), frame = near(plain.now(4), plain.now(4) + 6), which = lot(-1, 4);
        int cell = near(0, 6), bit = lots.nextBoolean() ? lot(0, 4) : near(0, 31);
        same("harm(" + sort + ", " + frame + ", " + which + ", " + cell + ", " + bit + ")",
            room.harm(sort, frame, which, cell, bit), plain.harm(sort, frame, which, cell, bit));
    }

    private void newProgram() {
        int what = lots.nextInt(6);
        if (what == 0) {
            same("leave()", room.leave(), plain.leave());
        } else if (what < 3) {
            int frame = near(plain.now(4), plain.now(4) + 4);
            int seal = lots.nextInt(calm ? 2 : 6) < 1 || calm && plain.count(6) < 6 ? lots.nextInt() : plain.seal(1);
            same("begin(" + frame + ", " + seal + ")", room.begin(frame, seal), plain.begin(frame, seal));
        } else {
            int[] s = someStep();
            same("piece(" + s[0] + ", " + s[1] + ", " + s[2] + ", " + s[3] + ")",
                room.piece(s[0], s[1], s[2], s[3]), plain.piece(s[0], s[1], s[2], s[3]));
        }
        int which = near(0, 1);
        same("seal(" + which + ")", room.seal(which), plain.seal(which));
    }

    private void fate() {
        int lane = near(0, 1), cell = near(0, 4), bit = near(0, 31), k = near(1, 20), what = near(0, 3);
        if (lots.nextBoolean()) bit = lot(0, 9);
        same("fate(" + lane + ", " + cell + ", " + bit + ", " + k + ", " + what + ")",
            room.fate(lane, cell, bit, k, what), plain.fate(lane, cell, bit, k, what));
    }

    private void fates() {
        int lane = near(0, 2), k = near(1, 4), fate = near(0, 3);
        same("fates(" + lane + ", " + k + ", " + fate + ")", room.fates(lane, k, fate), plain.fates(lane, k, fate));
    }

    /** Words that a hidden flip in a copy of the flight gives, so that there is something to be found. */
    private void fillBox() {
        same("unbox()", room.unbox(), plain.unbox());
        same("image(1)", room.image(1), plain.image(1));
        int frames = lot(1, 4), at = lot(0, frames - 1);
        if (lots.nextInt(4) > 0) {
            int frame = plain.now(4) + at, lane = Math.min(lot(0, 2), lot(0, 2)), cell = lot(1, 3), bit = lot(0, 9);
            same("harm", room.harm(0, frame, lane, cell, bit), plain.harm(0, frame, lane, cell, bit));
        }
        int[] words = new int[frames];
        for (int i = 0; i < frames; i++) {
            words[i] = plain.fly(1);
            same("fly(1)", room.fly(1), words[i]);
        }
        same("from(1)", room.from(1), plain.from(1));
        if (lots.nextInt(8) == 0) words[lots.nextInt(frames)] = near(-1000, 1000);
        for (int word : words) same("box(" + word + ")", room.box(word), plain.box(word));
    }

    private void proof() {
        switch (lots.nextInt(8)) {
            case 0:
                if (dear++ < 3) fates();
                return;
            case 1:
                if (dear++ >= 3) return;
                fillBox();
                same("cause()", room.cause(), plain.cause());
                return;
            case 2:
                int sort = near(0, 1), what = near(0, 2);
                same("guess(" + sort + ", " + what + ")", room.guess(sort, what), plain.guess(sort, what));
                return;
            case 3:
                int lane = near(0, 2), time = near(-1000000, 1000000), rate = near(-1000, 1000);
                same("clock(" + lane + ", " + time + ", " + rate + ")",
                    room.clock(lane, time, rate), plain.clock(lane, time, rate));
                return;
            case 4:
                int n = near(0, 100);
                same("near(" + n + ")", room.near(n), plain.near(n));
                return;
            default:
                fate();
        }
    }

    private void setting() {
        int a, b, c;
        switch (lots.nextInt(8)) {
            case 0:
                a = near(0, 7); b = near(0, 1); c = near(0, lots.nextBoolean() ? 5 : 100000);
                same("word(" + a + ", " + b + ", " + c + ")", room.word(a, b, c), plain.word(a, b, c));
                return;
            case 1:
                a = near(1, 20); b = near(1, 50);
                if (lots.nextInt(3) > 0) { a = lot(1, 3); b = lot(1, 4); }
                same("aside(" + a + ", " + b + ")", room.aside(a, b), plain.aside(a, b));
                return;
            case 2:
                a = near(0, lots.nextBoolean() ? 100 : 1000000); b = near(-1000000, 1000000);
                if (lots.nextInt(3) > 0) b = lot(-30, 30);
                same("body(" + a + ", " + b + ")", room.body(a, b), plain.body(a, b));
                return;
            case 3:
                a = near(1, 1000); b = near(0, 50); c = lots.nextInt();
                same("air(" + a + ", " + b + ", " + c + ")", room.air(a, b, c), plain.air(a, b, c));
                return;
            case 4:
                a = near(0, 3); b = near(-1000, -90); c = near(90, 1000);
                if (!calm && lots.nextInt(4) == 0) b = near(-10, 20);
                same("limit(" + a + ", " + b + ", " + c + ")", room.limit(a, b, c), plain.limit(a, b, c));
                return;
            case 5:
                if (lots.nextInt(calm ? 20 : 3) == 0) same("unslot()", room.unslot(), plain.unslot());
                slot();
                return;
            case 6:
                same("erase()", room.erase(), plain.erase());
                writeRules();
                return;
            default:
                sensor();
        }
    }

    private void look() {
        int a = near(0, 7), b = near(0, 5);
        same("now(" + a + ")", room.now(a), plain.now(a));
        same("cell(" + b + ", " + a + ")", room.cell(b, a), plain.cell(b, a));
        same("lane(" + b + ", " + a + ")", room.lane(b, a), plain.lane(b, a));
        same("voted(" + a + ", " + b + ")", room.voted(a, b), plain.voted(a, b));
        same("sensed(" + b + ")", room.sensed(b), plain.sensed(b));
        same("count(" + a + ")", room.count(a), plain.count(a));
        same("digest()", room.digest(), plain.digest());
    }

    private void anyCall() {
        int i = near(0, 1);
        switch (lots.nextInt(24)) {
            case 0: harm(); return;
            case 1: if (lots.nextInt(5) == 0) fly(100); return;
            case 2: case 3: case 4: setting(); return;
            case 5: case 6: case 7: proof(); return;
            case 8: case 9: newProgram(); return;
            case 10: part(); return;
            case 11: step(); return;
            case 12: same("image(" + i + ")", room.image(i), plain.image(i)); return;
            case 13: same("from(" + i + ")", room.from(i), plain.from(i)); return;
            case 14: i = near(1, 4); same("lanes(" + i + ")", room.lanes(i), plain.lanes(i)); return;
            case 15: case 16: case 17: look(); return;
            default: fly(4);
        }
    }

    private boolean holds() {
        calm = lots.nextInt(3) > 0;
        if (calm) beginWell();
        else begin();
        for (int i = 0; i < CALLS && !wrong && told.size() < 512; i++) {
            anyCall();
            same("digest()", room.digest(), plain.digest());
        }
        return !wrong;
    }

    public static void main(String[] args) {
        int runs = args.length > 0 ? Integer.parseInt(args[0]) : RUNS;
        long first = args.length > 1 ? Long.parseLong(args[1]) : 1;
        for (int i = 0; i < runs; i++) {
            if (new ComparedByLotsTest(first + i).holds()) continue;
            System.out.println("the run of seed " + (first + i) + " is not as PlainRoom's");
            System.exit(1);
        }
        System.out.println(runs + " runs by lots are as PlainRoom's");
    }
}
