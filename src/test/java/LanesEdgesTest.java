/** Terms 1, sentence by sentence: lanes, cells, steps, parts, ticks and slots at their edges. */
public final class LanesEdgesTest {
    private static final Due due = new Due();
    private static final int MAX = Integer.MAX_VALUE, MIN = Integer.MIN_VALUE;

    private static int[] s(int act, int a, int b, int c) {
        return Due.s(act, a, b, c);
    }

    /** One lane that has run these steps in a slot of so many ticks, once. */
    private static FlyerRoom ran(int ticks, int[]... steps) {
        FlyerRoom x = Due.runners(1, ticks, steps);
        x.fly(1);
        return x;
    }

    private static void lanesThere() {
        due.sentence("LANES 0 .. 3 (3 at first are there, 1 .. 4)");
        FlyerRoom x = new FlyerRoom();
        due.is("count(0)", x.count(0), 3);
        due.is("lane(2, 0)", x.lane(2, 0), 1);
        due.is("lane(3, 0)", x.lane(3, 0), -2);
        due.is("lanes(1)", x.lanes(1), 1);
        due.is("lane(0, 0)", x.lane(0, 0), 1);
        due.is("lane(1, 0)", x.lane(1, 0), -2);
        due.is("lanes(4)", x.lanes(4), 1);
        due.is("lane(3, 0)", x.lane(3, 0), 1);
        due.is("lane(4, 0)", x.lane(4, 0), -2);
        due.sentence("n LANES are there, all IN, CELLS 0");
        for (int n = 1; n <= 4; n++) {
            FlyerRoom y = Due.runners(n, 1, s(0, 11, 7, 0));
            y.fly(1);
            for (int lane = 0; lane < 4; lane++) due.is("cell(" + lane + ", 11) of " + n, y.cell(lane, 11), lane < n ? 7 : 0);
        }
    }

    private static void cells() {
        due.sentence("CELLS 0 .. 11 (ints, 0 at first)");
        due.is("the least int in the first cell", ran(1, s(0, 0, MIN, 0)).cell(0, 0), MIN);
        due.is("the greatest int in the last cell", ran(1, s(0, 11, MAX, 0)).cell(0, 11), MAX);
        FlyerRoom x = new FlyerRoom();
        x.lanes(4);
        for (int lane = 0; lane < 4; lane++) {
            for (int cell = 0; cell < 12; cell++) due.is("cell(" + lane + ", " + cell + ")", x.cell(lane, cell), 0);
        }
    }

    private static void upToSixtySteps() {
        due.sentence("A PROGRAM has up to 60 STEPS");
        FlyerRoom x = new FlyerRoom();
        x.lanes(1);
        for (int i = 0; i < 59; i++) x.step(0, 0, i, 0);
        due.is("the 60th", x.step(0, 1, 99, 0), 59);
        due.is("the 61st", x.step(0, 1, 98, 0), -4);
        x.part(0, 58, 60);
        x.slot(0, 0, 2);
        x.fly(1);
        due.is("the 59th runs", x.cell(0, 0), 58);
        due.is("the 60th runs", x.cell(0, 1), 99);
        due.is("to its end", x.now(7), 0);
        FlyerRoom y = new FlyerRoom();
        y.part(0, 0, 60);
        y.slot(0, 0, 1);
        y.fly(1);
        due.is("no steps at all: a part is at its end", y.now(7), 0);
    }

    private static int by(int b, int c) {
        return ran(9, s(0, 0, b, 0), s(0, 1, c, 0), s(4, 2, 0, 1)).cell(0, 2);
    }

    private static void byCutTowardZero() {
        due.sentence("4 BY: cut toward 0");
        due.is("7 by 2", by(7, 2), 3);
        due.is("-7 by 2", by(-7, 2), -3);
        due.is("7 by -2", by(7, -2), -3);
        due.is("-7 by -2", by(-7, -2), 3);
        due.is("1 by 2", by(1, 2), 0);
        due.is("-1 by 2", by(-1, 2), 0);
        due.is("0 by 5", by(0, 5), 0);
    }

    private static void byZeroFails() {
        due.sentence("by 0 the PART FAILS (what it did stays)");
        // Part 0: cells 0 and 3 are set, then 5 by 0; part 1 sets cell 5.
        FlyerRoom x = new FlyerRoom();
        x.lanes(2);
        int[][] steps = {s(0, 0, 5, 0), s(0, 3, 8, 0), s(4, 3, 0, 1), s(0, 4, 1, 0), s(0, 5, 6, 0)};
        for (int[] step : steps) x.step(step[0], step[1], step[2], step[3]);
        x.part(0, 0, 4);
        x.part(1, 4, 5);
        x.slot(0, 0, 9);
        x.slot(1, 9, 1);
        x.harm(0, 0, 1, 1, 0);
        x.fly(1);
        due.is("one lane fails", x.now(7), 1);
        due.is("what it did stays", x.cell(0, 0), 5);
        due.is("its cell is not written", x.cell(0, 3), 8);
        due.is("no step behind it", x.cell(0, 4), 0);
        due.is("another part runs", x.cell(0, 5), 6);
        due.is("another lane goes on: 5 by 1", x.cell(1, 3), 5);
        due.is("to its end", x.cell(1, 4), 1);
        due.is("0 by 0", ran(9, s(4, 2, 0, 1)).now(7), 1);
        due.is("by itself", ran(9, s(4, 2, 2, 2)).now(7), 1);
        due.is("as the last step in the last tick", ran(1, s(4, 2, 0, 1)).now(7), 1);
    }

    private static void leaps() {
        due.sentence("7 LEAP: if cell a is above 0, the next b STEPS (1 .. 20) are passed over");
        int[] numbers = {MIN, -1, 0, 1, MAX};
        for (int number : numbers) {
            FlyerRoom x = ran(9, s(0, 0, number, 0), s(7, 0, 1, 0), s(0, 1, 5, 0), s(0, 2, 6, 0));
            due.is("cell a is " + number, x.cell(0, 1), number > 0 ? 0 : 5);
            due.is("cell a is " + number + ", the step behind", x.cell(0, 2), 6);
        }
        int[][] steps = new int[24][];
        steps[0] = s(0, 0, 1, 0);
        steps[1] = s(7, 0, 20, 0);
        for (int i = 2; i < 22; i++) steps[i] = s(0, 1, i, 0);
        steps[22] = s(0, 2, 6, 0);
        steps[23] = s(0, 3, 7, 0);
        due.is("20 are passed over", ran(4, steps).cell(0, 1), 0);
        due.is("the 21st is not", ran(4, steps).cell(0, 2), 6);
        due.is("and take no ticks", ran(4, steps).now(7), 0);
        due.is("but the leap takes one", ran(3, steps).now(7), 1);
    }

    private static void senseAndSay() {
        due.sentence("8 SENSE: cell a is what is VOTED of sort b (0, 1)");
        FlyerRoom x = Due.runners(2, 4, s(8, 0, 0, 0), s(8, 11, 1, 0));
        x.sensor(0, 40, 0, 0);
        x.sensor(1, -30, 0, 0);
        x.fly(1);
        due.is("sort 0", x.cell(1, 0), 40);
        due.is("sort 1", x.cell(1, 11), -30);
        FlyerRoom none = Due.runners(1, 4, s(0, 0, 9, 0), s(8, 0, 1, 0));
        none.sensor(0, 40, 0, 0);
        none.fly(1);
        due.is("without any of its sort 0", none.cell(0, 0), 0);
        for (int word = 0; word < 8; word++) due.is("it says nothing as WORD " + word, x.voted(word, 1), 0);
        due.sentence("9 SAY: WORD b (0 .. 7) is cell a");
        FlyerRoom y = ran(9, s(0, 11, 7, 0), s(9, 11, 0, 0), s(0, 11, 8, 0), s(9, 11, 7, 0), s(0, 11, 9, 0));
        due.is("WORD 0, as the cell was then", y.voted(0, 2), 7);
        due.is("WORD 7", y.voted(7, 2), 8);
        for (int word = 1; word < 7; word++) due.is("WORD " + word + " is not said", y.voted(word, 1), 0);
        due.is("said twice: the last", ran(9, s(9, 0, 3, 0), s(0, 0, 5, 0), s(9, 0, 3, 0)).voted(3, 2), 5);
        due.is("0 is said, too", ran(9, s(9, 0, 3, 0)).voted(3, 1), 1);
    }

    private static void agains() {
        due.sentence("10 AGAIN: if cell a is above 0, back by b STEPS (1 .. 20)");
        int[] numbers = {MIN, -1, 0, 1, MAX};
        for (int number : numbers) {
            // With 4 ticks: SET, ADD, AGAIN, and then ADD once more or SET of cell 2.
            FlyerRoom x = ran(4, s(0, 0, number, 0), s(1, 1, 1, 0), s(10, 0, 1, 0), s(0, 2, 6, 0));
            due.is("cell a is " + number + ", back", x.cell(0, 1), number > 0 ? 2 * number : number);
            due.is("cell a is " + number + ", on", x.cell(0, 2), number > 0 ? 0 : 6);
        }
        int[][] steps = new int[22][];
        steps[0] = s(0, 0, 1, 0);
        steps[1] = s(1, 1, 1, 0);
        for (int i = 2; i < 21; i++) steps[i] = s(0, 2, i, 0);
        steps[21] = s(10, 0, 20, 0);
        due.is("back by 20", ran(23, steps).cell(0, 1), 2);
        due.is("a tick ahead of that", ran(22, steps).cell(0, 1), 1);
        FlyerRoom first = ran(3, s(1, 1, 1, 0), s(0, 0, 1, 0), s(10, 0, 2, 0));
        due.is("back to its first step: no tick is left, it fails", first.now(7), 1);
    }

    private static int worked(int act, int b, int c) {
        return ran(9, s(0, 0, b, 0), s(0, 1, c, 0), s(act, 2, 0, 1)).cell(0, 2);
    }

    private static void intsWrap() {
        due.sentence("Ints wrap.");
        due.is("ADD up", worked(1, MAX, 1), MIN);
        due.is("ADD down", worked(1, MIN, -1), MAX);
        due.is("LESS down", worked(2, MIN, 1), MAX);
        due.is("LESS up", worked(2, MAX, -1), MIN);
        due.is("LESS of the least", worked(2, 0, MIN), MIN);
        due.is("TIMES", worked(3, 65536, 32768), MIN);
        due.is("TIMES to 0", worked(3, 65536, 65536), 0);
        due.is("TIMES of the least", worked(3, MIN, -1), MIN);
        due.is("BY of the least", worked(4, MIN, -1), MIN);
        due.sentence("5 LEAST of b, c. 6 GREATEST.");
        due.is("LEAST", worked(5, MIN, MAX), MIN);
        due.is("LEAST, the other way", worked(5, MAX, MIN), MIN);
        due.is("GREATEST", worked(6, MIN, MAX), MAX);
        due.is("GREATEST, the other way", worked(6, MAX, MIN), MAX);
        due.is("LEAST of like ones", worked(5, 4, 4), 4);
    }

    private static void lookedAt() {
        due.sentence("(c of 0, 7 to 10 is not looked at; cells 0 .. 11.)");
        int[] any = {MIN, -1, 12, MAX};
        for (int c : any) {
            FlyerRoom x = new FlyerRoom();
            int[] acts = {0, 7, 8, 9, 10};
            for (int i = 0; i < acts.length; i++) due.is("act " + acts[i] + ", c " + c, x.step(acts[i], 0, 1, c), i);
            for (int act = 1; act <= 6; act++) due.is("act " + act + ", c " + c, x.step(act, 0, 1, c), -2);
            due.is("SET, b " + c, x.step(0, 0, c, 0), 5);
        }
    }

    private static void parts() {
        due.sentence("PARTS 0 .. 5 are STEPS from .. to (to is behind the last; none at first: 0 .. 0)");
        for (int part = 0; part < 6; part++) {
            FlyerRoom x = new FlyerRoom();
            x.lanes(1);
            for (int i = 0; i < 4; i++) x.step(0, i, 1, 0);
            x.slot(part, 0, 1);
            x.fly(1);
            due.is("PART " + part + " at first, no step", x.cell(0, 0), 0);
            due.is("PART " + part + " at first, at its end", x.now(7), 0);
            x.part(part, 2, 3);
            x.fly(1);
            due.is("PART " + part + ", ahead of from", x.cell(0, 1), 0);
            due.is("PART " + part + ", from", x.cell(0, 2), 1);
            due.is("PART " + part + ", to", x.cell(0, 3), 0);
            due.is("PART " + part + ", one tick", x.now(7), 0);
            x.part(part, 3, 3);
            x.fly(1);
            due.is("PART " + part + " from 3 to 3", x.cell(0, 3), 0);
            due.is("PART " + part + " from 3 to 3, at its end", x.now(7), 0);
        }
    }

    private static void fortyTicks() {
        due.sentence("A FRAME has 40 ticks.");
        int[][] steps = new int[41][];
        for (int i = 0; i < 41; i++) steps[i] = s(1, 0, 0, 1);
        steps[0] = s(0, 1, 1, 0);
        FlyerRoom x = Due.runners(1, 40, steps);
        x.part(0, 0, 40);
        x.fly(1);
        due.is("40 steps", x.cell(0, 0), 39);
        due.is("to its end", x.now(7), 0);
        x.part(0, 0, 41);
        x.fly(1);
        due.is("41 steps", x.cell(0, 0), 78);
        due.is("it fails", x.now(7), 1);
    }

    private static void slots() {
        due.sentence("SLOTS 0 .. 7, as they come: a PART, a first tick, ticks (1 .. 40); none share a tick, none goes beyond");
        FlyerRoom x = new FlyerRoom();
        due.is("the whole frame", x.slot(0, 0, 40), 0);
        for (int tick = 0; tick < 40; tick++) due.is("tick " + tick + " is taken", x.slot(0, tick, 1), -3);
        x.unslot();
        due.is("39 and one", x.slot(0, 39, 1), 0);
        due.is("39 and two go beyond", x.slot(0, 39, 2), -3);
        due.is("0 and 40 share 39", x.slot(0, 0, 40), -3);
        due.is("0 and 39", x.slot(0, 0, 39), 1);
        x.unslot();
        due.is("1 and 40 go beyond", x.slot(0, 1, 40), -3);
        due.is("1 and 39", x.slot(0, 1, 39), 0);
        x.unslot();
        due.is("10 .. 14", x.slot(0, 10, 5), 0);
        int[][] shared = {{10, 5}, {9, 2}, {14, 1}, {14, 9}, {11, 3}, {9, 7}, {0, 40}, {0, 11}, {10, 1}};
        for (int[] slot : shared) due.is("slot(0, " + slot[0] + ", " + slot[1] + ")", x.slot(0, slot[0], slot[1]), -3);
        due.is("just ahead", x.slot(0, 0, 10), 1);
        due.is("just behind", x.slot(0, 15, 1), 2);
        for (int i = 3; i < 8; i++) due.is("SLOT " + i, x.slot(5, 30 + i, 1), i);
        due.is("a 9th", x.slot(5, 20, 1), -4);
        due.is("count(2)", x.count(2), 8);
        due.is("all go", x.unslot(), 8);
        due.is("and come anew", x.slot(5, 20, 1), 0);
    }

    private static void stepsTakeTicks() {
        due.sentence("each STEP, passed over ones not, takes a tick; it ends as it comes to its end");
        int[][] steps = {s(0, 0, 1, 0), s(7, 0, 2, 0), s(0, 1, 1, 0), s(0, 2, 1, 0), s(0, 3, 1, 0)};
        due.is("three ticks", ran(3, steps).now(7), 0);
        due.is("two ticks", ran(2, steps).now(7), 1);
        due.is("what it did stays", ran(2, steps).cell(0, 0), 1);
        due.is("what it did not", ran(2, steps).cell(0, 3), 0);
        int[][] leapToEnd = {s(0, 0, 1, 0), s(7, 0, 1, 0), s(0, 1, 1, 0)};
        due.is("a leap just to its end", ran(2, leapToEnd).now(7), 0);
        int[][] leapBeyond = {s(0, 0, 1, 0), s(7, 0, 20, 0), s(0, 1, 1, 0)};
        due.is("a leap beyond its end", ran(2, leapBeyond).now(7), 0);
        FlyerRoom x = new FlyerRoom();
        x.lanes(1);
        int[][] more = {s(0, 0, 1, 0), s(7, 0, 1, 0), s(0, 1, 1, 0), s(0, 2, 1, 0)};
        for (int[] step : more) x.step(step[0], step[1], step[2], step[3]);
        x.part(0, 0, 3);
        x.slot(0, 0, 40);
        x.fly(1);
        due.is("a leap out of the part, a step is there", x.cell(0, 2), 0);
        due.is("it ends", x.now(7), 0);
    }

    private static void endsBeforeItsBeginning() {
        due.sentence("or before its beginning");
        int[][] steps = {s(0, 0, 1, 0), s(10, 0, 2, 0), s(0, 1, 1, 0)};
        due.is("by one before it, ticks left", ran(9, steps).now(7), 0);
        due.is("by one before it, no ticks left", ran(2, steps).now(7), 0);
        due.is("nothing behind it", ran(9, steps).cell(0, 1), 0);
        due.is("just its beginning is not before it", ran(2, s(0, 0, 1, 0), s(10, 0, 1, 0)).now(7), 1);
        FlyerRoom x = new FlyerRoom();
        x.lanes(1);
        int[][] more = {s(1, 3, 3, 0), s(0, 0, 1, 0), s(10, 0, 2, 0)};
        for (int[] step : more) x.step(step[0], step[1], step[2], step[3]);
        x.part(0, 1, 3);
        x.slot(0, 0, 40);
        x.fly(1);
        due.is("a step ahead of the part is not run", x.cell(0, 3), 0);
        due.is("it ends", x.now(7), 0);
    }

    private static void endsBeyondTheProgram() {
        due.sentence("or beyond the PROGRAM; if there are no ticks left ahead of that it FAILS");
        int[][] steps = {s(0, 0, 1, 0), s(0, 1, 1, 0)};
        FlyerRoom x = Due.runners(1, 2, steps);
        x.part(0, 0, 60);
        x.fly(1);
        due.is("two steps in two ticks", x.now(7), 0);
        x.unslot();
        x.slot(0, 0, 1);
        x.fly(1);
        due.is("two steps in a tick", x.now(7), 1);
        x.part(0, 1, 60);
        x.fly(1);
        due.is("the last step in a tick", x.now(7), 0);
        x.part(0, 2, 60);
        x.harm(4, 3, 0, 0, 0);
        x.fly(1);
        due.is("from just behind the program, in no tick", x.now(7), 0);
        x.part(0, 60, 60);
        x.fly(1);
        due.is("from 60", x.now(7), 0);
    }

    public static void main(String[] args) {
        lanesThere();
        cells();
        upToSixtySteps();
        byCutTowardZero();
        byZeroFails();
        leaps();
        senseAndSay();
        agains();
        intsWrap();
        lookedAt();
        parts();
        fortyTicks();
        slots();
        stepsTakeTicks();
        endsBeforeItsBeginning();
        endsBeyondTheProgram();
        due.end();
    }
}
