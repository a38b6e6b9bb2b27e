/**
 * A flyer's computers: lanes that vote, sensors, a body in wind, modes by rules, new programs under a seal,
 * and what a flipped bit comes to.
 */
public final class FlyerRoom {
    public static final int NONE = -1, BAD = -2, NO = -3, FULL = -4;

    // Answers of single calls that stand apart because -1 .. -4 can be true answers there.
    private static final int BAD_FLY = -2000, BAD_NOW = -2000000, BAD_NUMBER = -2000000000;
    private static final int BAD_FATE = -100, NO_SENSOR = -2100000000, WITHOUT_ANY = -5;

    private static final int MOST_LANES = 4, CELLS = 12, BITS = 32, WORDS = 8, SORTS = 2, MODES = 4;
    private static final int MOST_STEPS = 60, MOST_BACK = 20, PARTS = 6, MOST_SLOTS = 8, TICKS = 40;
    private static final int MOST_SENSORS = 6, MOST_TEXT = 60, MOST_FAULTS = 8, LAST_TOLD_FRAME = 9999;
    private static final int MOST_BOX = 10, MOST_FATE_FRAMES = 20, IMAGES = 2, MILLION = 1000000;

    private static final int SET = 0, ADD = 1, LESS = 2, TIMES = 3, BY = 4, LEAST = 5, GREATEST = 6;
    private static final int LEAP = 7, SENSE = 8, SAY = 9, AGAIN = 10;
    private static final int ALIKE = 0, MIDDLE = 1;
    private static final int FLIP = 0, TWIN = 1, STUCK = 2, MUTE = 3, SLOW = 4;
    private static final int HARM_FRAMES = 10;
    private static final int DIES = 0, SHOWS = 1, REACHES = 2, HIDES = 3;

    private final Plan plan;
    private final Flight flight;
    private final Pilot pilot;
    // Made by the first call that asks for a proof or an image, since most objects never need one.
    private Proofs proofs;
    private final Plan[] keptPlans;
    private final Flight[] keptFlights;

    public FlyerRoom() {
        plan = new Plan();
        flight = new Flight();
        pilot = new Pilot(plan);
        keptPlans = new Plan[IMAGES];
        keptFlights = new Flight[IMAGES];
    }

    // ---- lanes, programs, slots

    public int lanes(int n) {
        if (!within(n, 1, MOST_LANES)) return BAD;
        if (flight.frame > 0) return NO;
        plan.laneCount = n;
        flight.renewLanes(n);
        return 1;
    }

    public int step(int act, int a, int b, int c) {
        if (!isStep(act, a, b, c)) return BAD;
        if (flight.frame > 0) return NO;
        Program program = plan.programs[flight.active];
        if (program.size >= MOST_STEPS) return FULL;
        program.add(act, a, b, c);
        return program.size - 1;
    }

    public int part(int part, int from, int to) {
        if (!within(part, 0, PARTS - 1) || !within(from, 0, MOST_STEPS) || !within(to, from, MOST_STEPS)) return BAD;
        plan.slots.partFrom[part] = from;
        plan.slots.partTo[part] = to;
        return 1;
    }

    public int slot(int part, int first, int ticks) {
        if (!within(part, 0, PARTS - 1) || !within(first, 0, TICKS - 1) || !within(ticks, 1, TICKS)) return BAD;
        if (!plan.slots.hasRoom(first, ticks)) return NO;
        if (plan.slots.size >= MOST_SLOTS) return FULL;
        plan.slots.add(part, first, ticks);
        return plan.slots.size - 1;
    }

    public int unslot() {
        int gone = plan.slots.size;
        plan.slots.size = 0;
        return gone;
    }

    public int word(int word, int kind, int span) {
        if (!within(word, 0, WORDS - 1) || !within(kind, ALIKE, MIDDLE) || !within(span, 0, 100000)) return BAD;
        plan.wordKind[word] = kind;
        plan.wordSpan[word] = span;
        return 1;
    }

    public int aside(int k, int m) {
        if (!within(k, 1, 20) || !within(m, 1, 50)) return BAD;
        plan.rowToAside = k;
        plan.framesAside = m;
        return 1;
    }

    // ---- sensors, body, modes

    public int sensor(int sort, int offset, int drift, int error) {
        if (!within(sort, 0, SORTS - 1) || !within(offset, -1000, 1000)) return BAD;
        if (!within(drift, -100, 100) || !within(error, 0, 1000)) return BAD;
        if (plan.sensors.size >= MOST_SENSORS) return FULL;
        plan.sensors.add(sort, offset, drift, error);
        return plan.sensors.size - 1;
    }

    public int body(int height, int speed) {
        if (!within(height, 0, MILLION) || !within(speed, -MILLION, MILLION)) return BAD;
        flight.height = height;
        flight.speed = speed;
        return 1;
    }

    public int air(int drag, int gust, int lot) {
        if (!within(drag, 1, 1000) || !within(gust, 0, 50)) return BAD;
        plan.drag = drag;
        plan.gust = gust;
        flight.lot = lot;
        return 1;
    }

    public int limit(int mode, int low, int high) {
        if (!within(mode, 0, MODES - 1) || !within(low, -1000, 1000) || !within(high, low, 1000)) return BAD;
        plan.low[mode] = low;
        plan.high[mode] = high;
        return 1;
    }

    public int write(int character) {
        if (!within(character, 0, 127)) return BAD;
        if (plan.rules.size >= MOST_TEXT) return FULL;
        plan.rules.add((char) character);
        return plan.rules.size;
    }

    public int erase() {
        int gone = plan.rules.size;
        plan.rules.clear();
        return gone;
    }

    public int fault() {
        return plan.rules.textFault;
    }

    // ---- flying

    public int fly(int n) {
        if (!within(n, 1, 100)) return BAD_FLY;
        for (int i = 0; i < n; i++) pilot.flyFrame(flight);
        return flight.mover;
    }

    public int now(int what) {
        switch (what) {
            case 0: return flight.height;
            case 1: return flight.speed;
            case 2: return flight.mover;
            case 3: return flight.mode;
            case 4: return flight.frame;
            case 5: return Integer.bitCount(flight.inLanes);
            case 6: return flight.differed;
            case 7: return flight.failed;
            default: return BAD_NOW;
        }
    }

    public int cell(int lane, int cell) {
        if (!isLane(lane) || !within(cell, 0, CELLS - 1)) return 0;
        return flight.lanes[lane].cells[cell];
    }

    public int lane(int lane, int what) {
        if (!isLane(lane)) return BAD;
        Lane asked = flight.lanes[lane];
        switch (what) {
            case 0: return flight.isIn(lane) ? 1 : 0;
            case 1: return asked.row;
            case 2: return asked.asideFor;
            case 3: return asked.muteFor;
            case 4: return asked.slowFor;
            default: return BAD;
        }
    }

    public int voted(int word, int what) {
        if (!within(word, 0, WORDS - 1) || !within(what, 0, 1 + plan.laneCount)) return BAD_NUMBER;
        if (what == 0) return flight.words.results[word];
        if (what == 1) return flight.words.hasResult(word) ? 1 : 0;
        return flight.words.saidOf(word, what - 2);
    }

    public int sensed(int sort) {
        return within(sort, 0, SORTS - 1) ? flight.votedOfSort[sort] : BAD_NUMBER;
    }

    public int harm(int sort, int frame, int which, int cell, int bit) {
        if (!within(sort, FLIP, SLOW) || !within(frame, 0, LAST_TOLD_FRAME)) return BAD;
        boolean isThere = sort == STUCK ? within(which, 0, plan.sensors.size - 1) : isLane(which);
        if (!isThere) return BAD;
        boolean ofBit = sort == FLIP || sort == TWIN;
        if (ofBit && (!within(cell, 0, CELLS - 1) || !within(bit, 0, BITS - 1))) return BAD;
        if (frame < flight.frame) return NO;
        if (plan.faults.size >= MOST_FAULTS) return FULL;
        plan.faults.add(sort, frame, which, ofBit ? cell : 0, ofBit ? bit : 0);
        return plan.faults.size - 1;
    }

    // ---- new programs

    public int piece(int act, int a, int b, int c) {
        if (!isStep(act, a, b, c)) return BAD;
        Program beside = plan.programs[1 - flight.active];
        if (beside.size >= MOST_STEPS) return FULL;
        beside.add(act, a, b, c);
        return beside.size;
    }

    public int leave() {
        Program beside = plan.programs[1 - flight.active];
        int gone = beside.size;
        beside.size = 0;
        flight.due = NONE;
        return gone;
    }

    public int seal(int which) {
        if (!within(which, 0, 1)) return 0;
        return plan.programs[which == 0 ? flight.active : 1 - flight.active].sealNumber();
    }

    public int begin(int frame, int seal) {
        if (!within(frame, 0, LAST_TOLD_FRAME)) return BAD;
        if (frame < flight.frame || seal != plan.programs[1 - flight.active].sealNumber()) return NO;
        flight.due = frame;
        return 1;
    }

    // ---- proofs

    public int fate(int lane, int cell, int bit, int k, int what) {
        if (!isLane(lane) || !within(cell, 0, CELLS - 1) || !within(bit, 0, BITS - 1)) return BAD_FATE;
        if (!within(k, 1, MOST_FATE_FRAMES) || !within(what, 0, 3)) return BAD_FATE;
        readyProofs();
        proofs.flyPlain(flight, k);
        proofs.flyFlipped(flight, lane, cell, bit, k, true);
        switch (what) {
            case 0: return proofs.fateOfFlip();
            case 1: return proofs.firstUnlike;
            case 2: return proofs.greatestUnlike;
            default: return proofs.firstAside;
        }
    }

    public int fates(int lane, int k, int fate) {
        if (!isLane(lane) || !within(k, 1, MOST_FATE_FRAMES) || !within(fate, DIES, HIDES)) return BAD;
        readyProofs();
        proofs.flyPlain(flight, k);
        int readCells = plan.readCells();
        int found = 0;
        for (int cell = 0; cell < CELLS; cell++) {
            // What no step reads has the same fate for every bit, so one bit stands for all.
            int alikeBits = (readCells >> cell & 1) == 1 ? 1 : BITS;
            for (int bit = 0; bit < BITS; bit += alikeBits) {
                proofs.flyFlipped(flight, lane, cell, bit, k, false);
                if (proofs.fateOfFlip() == fate) found += alikeBits;
            }
        }
        return found;
    }

    public int box(int word) {
        if (!within(word, -1000, 1000)) return BAD;
        if (plan.boxSize >= MOST_BOX) return FULL;
        plan.boxWords[plan.boxSize] = word;
        plan.boxSize++;
        return plan.boxSize;
    }

    public int unbox() {
        int gone = plan.boxSize;
        plan.boxSize = 0;
        return gone;
    }

    public int cause() {
        readyProofs();
        if (proofs.givesBoxPlain(flight)) return WITHOUT_ANY;
        int readCells = plan.readCells();
        for (int frame = 0; frame < plan.boxSize; frame++) {
            int found = proofs.firstFlip(frame, readCells);
            if (found != NONE) return 100000 * frame + found;
            // Once the flight is off the box without a flip, no later flip can mend it.
            if (!proofs.keepsBox(frame)) return NONE;
        }
        return NONE;
    }

    public int guess(int sort, int what) {
        if (!within(sort, 0, SORTS - 1) || !within(what, 0, 2)) return BAD_NUMBER;
        int all = plan.sensors.setOfSort(sort);
        if (all == 0) return NO_SENSOR;
        int set = plan.sensors.largestSet(all, flight);
        switch (what) {
            case 0: return plan.sensors.leastCommon(set, flight);
            case 1: return plan.sensors.greatestCommon(set, flight);
            default: return all & ~set;
        }
    }

    public int clock(int lane, int time, int rate) {
        if (!isLane(lane) || !within(time, -MILLION, MILLION) || !within(rate, -1000, 1000)) return BAD;
        plan.clockTime[lane] = time;
        plan.clockRate[lane] = rate;
        return 1;
    }

    public long near(int n) {
        return within(n, 0, 100) ? pilot.clockSpread(n) : BAD;
    }

    // ---- images

    public int image(int i) {
        if (!within(i, 0, IMAGES - 1)) return BAD;
        if (keptPlans[i] == null) keptPlans[i] = new Plan();
        if (keptFlights[i] == null) keptFlights[i] = new Flight();
        keptPlans[i].copyFrom(plan);
        keptFlights[i].copyFrom(flight);
        return 1;
    }

    public int from(int i) {
        if (!within(i, 0, IMAGES - 1)) return BAD;
        if (keptPlans[i] == null || keptFlights[i] == null) return NO;
        plan.copyFrom(keptPlans[i]);
        flight.copyFrom(keptFlights[i]);
        return 1;
    }

    public int count(int what) {
        switch (what) {
            case 0: return plan.laneCount;
            case 1: return plan.programs[flight.active].size;
            case 2: return plan.slots.size;
            case 3: return plan.sensors.size;
            case 4: return plan.faults.size;
            case 5: return plan.rules.size;
            case 6: return plan.programs[1 - flight.active].size;
            case 7: return plan.boxSize;
            default: return BAD;
        }
    }

    public long digest() {
        long h = 311;
        for (int what = 0; what <= 7; what++) h = 31 * h + count(what);
        for (int what = 0; what <= 7; what++) h = 31 * h + now(what);
        for (int lane = 0; lane < plan.laneCount; lane++) {
            for (int what = 0; what <= 4; what++) h = 31 * h + lane(lane, what);
            for (int cell = 0; cell < CELLS; cell++) h = 31 * h + cell(lane, cell);
        }
        for (int word = 0; word < WORDS; word++) {
            h = 31 * h + voted(word, 0);
            h = 31 * h + voted(word, 1);
        }
        h = 31 * h + sensed(0);
        h = 31 * h + sensed(1);
        h = 31 * h + seal(0);
        h = 31 * h + seal(1);
        return 31 * h + flight.lot;
    }

    // ---- what several calls share

    private boolean isLane(int lane) {
        return within(lane, 0, plan.laneCount - 1);
    }

    private void readyProofs() {
        if (proofs == null) proofs = new Proofs(plan, pilot);
    }

    private static boolean within(int number, int least, int greatest) {
        return number >= least && number <= greatest;
    }

    private static boolean isCell(int number) {
        return within(number, 0, CELLS - 1);
    }

    /** Whether these numbers make a step; c is looked at only where the act uses it. */
    private static boolean isStep(int act, int a, int b, int c) {
        if (!within(act, SET, AGAIN) || !isCell(a)) return false;
        switch (act) {
            case SET: return true;
            case LEAP:
            case AGAIN: return within(b, 1, MOST_BACK);
            case SENSE: return within(b, 0, SORTS - 1);
            case SAY: return within(b, 0, WORDS - 1);
            default: return isCell(b) && isCell(c);
        }
    }

    private static long brought(long number, long least, long greatest) {
        if (number < least) return least;
        return number > greatest ? greatest : number;
    }

    /** The middle of the first n of a row, 0 of none; it puts them in order. */
    private static long middleOf(long[] row, int n) {
        if (n <= 0 || n > row.length) return 0;
        for (int i = 1; i < n; i++) {
            long moved = row[i];
            int at = i;
            for (; at > 0 && row[at - 1] > moved; at--) row[at] = row[at - 1];
            row[at] = moved;
        }
        return n % 2 == 1 ? row[n / 2] : (row[n / 2 - 1] + row[n / 2]) / 2;
    }

    /** Steps one behind the other, as told. */
    private static final class Program {
        int size;
        final int[] acts = new int[MOST_STEPS];
        final int[] as = new int[MOST_STEPS];
        final int[] bs = new int[MOST_STEPS];
        final int[] cs = new int[MOST_STEPS];

        void add(int act, int a, int b, int c) {
            if (size >= MOST_STEPS) return;
            acts[size] = act;
            as[size] = a;
            bs[size] = b;
            cs[size] = c;
            size++;
        }

        int sealNumber() {
            int h = 17;
            for (int i = 0; i < size; i++) {
                h = 31 * h + acts[i];
                h = 31 * h + as[i];
                h = 31 * h + bs[i];
                h = 31 * h + cs[i];
            }
            return 31 * h + size;
        }

        /** The cells (bits) whose number some step looks at. */
        int readCells() {
            int read = 0;
            for (int i = 0; i < size; i++) {
                int act = acts[i];
                if (act == LEAP || act == SAY || act == AGAIN) read |= 1 << as[i];
                if (act >= ADD && act <= GREATEST) read |= 1 << bs[i] | 1 << cs[i];
            }
            return read;
        }

        void copyFrom(Program other) {
            size = other.size;
            System.arraycopy(other.acts, 0, acts, 0, size);
            System.arraycopy(other.as, 0, as, 0, size);
            System.arraycopy(other.bs, 0, bs, 0, size);
            System.arraycopy(other.cs, 0, cs, 0, size);
        }
    }

    /** The parts, and the slots in the order of their ticks: nothing asks for a slot by its number. */
    private static final class Slots {
        final int[] partFrom = new int[PARTS];
        final int[] partTo = new int[PARTS];
        int size;
        final int[] parts = new int[MOST_SLOTS];
        final int[] firsts = new int[MOST_SLOTS];
        final int[] ticks = new int[MOST_SLOTS];

        boolean hasRoom(int first, int length) {
            if (first + length > TICKS) return false;
            for (int i = 0; i < size; i++) {
                if (first < firsts[i] + ticks[i] && firsts[i] < first + length) return false;
            }
            return true;
        }

        void add(int part, int first, int length) {
            if (size >= MOST_SLOTS) return;
            int at = size;
            for (; at > 0 && firsts[at - 1] > first; at--) {
                parts[at] = parts[at - 1];
                firsts[at] = firsts[at - 1];
                ticks[at] = ticks[at - 1];
            }
            parts[at] = part;
            firsts[at] = first;
            ticks[at] = length;
            size++;
        }

        void copyFrom(Slots other) {
            System.arraycopy(other.partFrom, 0, partFrom, 0, PARTS);
            System.arraycopy(other.partTo, 0, partTo, 0, PARTS);
            size = other.size;
            System.arraycopy(other.parts, 0, parts, 0, size);
            System.arraycopy(other.firsts, 0, firsts, 0, size);
            System.arraycopy(other.ticks, 0, ticks, 0, size);
        }
    }

    /** What the sensors are; what they told last and which are stuck belongs to the flight. */
    private static final class Sensors {
        // Beyond whatever a sensor can tell.
        private static final int FAR = 2000000000;

        int size;
        final int[] sorts = new int[MOST_SENSORS];
        final int[] offsets = new int[MOST_SENSORS];
        final int[] drifts = new int[MOST_SENSORS];
        final int[] errors = new int[MOST_SENSORS];

        void add(int sort, int offset, int drift, int error) {
            if (size >= MOST_SENSORS) return;
            sorts[size] = sort;
            offsets[size] = offset;
            drifts[size] = drift;
            errors[size] = error;
            size++;
        }

        int tells(int i, Flight flight) {
            if ((flight.stuck >> i & 1) == 1) return flight.toldLast[i];
            int truth = sorts[i] == 0 ? flight.height : flight.speed;
            return truth + offsets[i] + drifts[i] * flight.frame / 16;
        }

        int setOfSort(int sort) {
            int set = 0;
            for (int i = 0; i < size; i++) {
                if (sorts[i] == sort) set |= 1 << i;
            }
            return set;
        }

        /** Of the sets within all that have a number in common the one with the most, of these the least. */
        int largestSet(int all, Flight flight) {
            int largest = 0;
            for (int set = 1; set < 1 << MOST_SENSORS; set++) {
                if ((set & ~all) != 0 || Integer.bitCount(set) <= Integer.bitCount(largest)) continue;
                if (leastCommon(set, flight) <= greatestCommon(set, flight)) largest = set;
            }
            return largest;
        }

        int leastCommon(int set, Flight flight) {
            int least = -FAR;
            for (int i = 0; i < size; i++) {
                if ((set >> i & 1) == 1) least = Math.max(least, tells(i, flight) - errors[i]);
            }
            return least;
        }

        int greatestCommon(int set, Flight flight) {
            int greatest = FAR;
            for (int i = 0; i < size; i++) {
                if ((set >> i & 1) == 1) greatest = Math.min(greatest, tells(i, flight) + errors[i]);
            }
            return greatest;
        }

        void copyFrom(Sensors other) {
            size = other.size;
            System.arraycopy(other.sorts, 0, sorts, 0, size);
            System.arraycopy(other.offsets, 0, offsets, 0, size);
            System.arraycopy(other.drifts, 0, drifts, 0, size);
            System.arraycopy(other.errors, 0, errors, 0, size);
        }
    }

    /**
     * The text of rules, read anew whenever it changes into a row of codes that is worked without looking at the
     * text again: a proof works the rules many thousand times.
     */
    private static final class Rules {
        private static final int END = -1, MOST_DIGITS = 6, MOST_OPEN = 8;
        // A code from 0 on is a number, one below is a sign: its character, negated. The minus ahead of a unit
        // takes this character, to be told from the minus between terms.
        private static final char NEGATIVE = '~';

        int size;
        final char[] text = new char[MOST_TEXT];
        int textFault;
        private int at;
        private int codeSize;
        private final int[] codes = new int[MOST_TEXT];
        private final long[] stack = new long[MOST_TEXT];

        Rules() {
            textFault = 1;
        }

        void add(char character) {
            if (size >= MOST_TEXT) return;
            text[size] = character;
            size++;
            readText();
        }

        void clear() {
            size = 0;
            readText();
        }

        void copyFrom(Rules other) {
            size = other.size;
            System.arraycopy(other.text, 0, text, 0, size);
            readText();
        }

        private void readText() {
            at = 0;
            codeSize = 0;
            textFault = NONE;
            readValue(0);
            if (at < size) found(at, 1);
        }

        /** Only the first fault is kept; behind it the text counts as ended, so that reading ends too. */
        private void found(int place, int kind) {
            if (textFault == NONE) textFault = 10 * place + kind;
        }

        /** The next character that is no blank. */
        private int ahead() {
            if (textFault != NONE) return END;
            for (; at < size; at++) {
                if (text[at] != ' ') return text[at];
            }
            return END;
        }

        private void emit(int code) {
            if (codeSize >= MOST_TEXT) return;
            codes[codeSize] = code;
            codeSize++;
        }

        private void readValue(int open) {
            readBoth(open);
            for (int n = 0; n < MOST_TEXT && ahead() == '|'; n++) {
                at++;
                readBoth(open);
                emit(-'|');
            }
        }

        private void readBoth(int open) {
            readHeld(open);
            for (int n = 0; n < MOST_TEXT && ahead() == '&'; n++) {
                at++;
                readHeld(open);
                emit(-'&');
            }
        }

        private void readHeld(int open) {
            readSum(open);
            int sign = ahead();
            if (sign != '<' && sign != '>' && sign != '=') return;
            at++;
            readSum(open);
            emit(-sign);
        }

        private void readSum(int open) {
            readTerm(open);
            for (int n = 0; n < MOST_TEXT; n++) {
                int sign = ahead();
                if (sign != '+' && sign != '-') return;
                at++;
                readTerm(open);
                emit(-sign);
            }
        }

        private void readTerm(int open) {
            readUnit(open);
            for (int n = 0; n < MOST_TEXT; n++) {
                int sign = ahead();
                if (sign != '*' && sign != '/') return;
                at++;
                readUnit(open);
                emit(-sign);
            }
        }

        /** The signs ahead of a unit are put behind its code, the last first, so no depth is spent on them. */
        private void readUnit(int open) {
            int first = at;
            int sign = ahead();
            for (int n = 0; n < MOST_TEXT && (sign == '!' || sign == '-'); n++) {
                at++;
                sign = ahead();
            }
            int behind = at;
            readBare(sign, open);
            for (int i = behind - 1; i >= first; i--) {
                if (text[i] == '!') emit(-'!');
                if (text[i] == '-') emit(-NEGATIVE);
            }
        }

        private void readBare(int sign, int open) {
            if (sign >= '0' && sign <= '9') {
                readDigits();
            } else if (sign == '(') {
                readOpened(open);
            } else if (sign == 'h' || sign == 'v' || sign == 'n' || sign == 'd' || sign == 'm' || sign == 'f') {
                at++;
                emit(-sign);
            } else {
                found(at, 1);
            }
        }

        private void readDigits() {
            int first = at;
            int number = 0;
            for (; at < size && text[at] >= '0' && text[at] <= '9'; at++) {
                if (at - first >= MOST_DIGITS) {
                    found(first, 2);
                    return;
                }
                number = 10 * number + (text[at] - '0');
            }
            emit(number);
        }

        private void readOpened(int open) {
            if (open >= MOST_OPEN) {
                found(at, 3);
                return;
            }
            at++;
            readValue(open + 1);
            if (ahead() == ')') at++;
            else found(at, 1);
        }

        /** What the rules tell of a flight; asked only of a text without a fault. */
        long worked(Flight flight) {
            int top = 0;
            for (int i = 0; i < codeSize; i++) {
                int sign = -codes[i];
                if (top >= MOST_TEXT) return 0;
                if (sign <= 0) {
                    stack[top] = codes[i];
                    top++;
                } else if (sign >= 'a' && sign <= 'z') {
                    stack[top] = numberOf(sign, flight);
                    top++;
                } else if (sign == '!' || sign == NEGATIVE) {
                    if (top < 1) return 0;
                    stack[top - 1] = signed(sign, stack[top - 1]);
                } else {
                    if (top < 2) return 0;
                    top--;
                    stack[top - 1] = joined(sign, stack[top - 1], stack[top]);
                }
            }
            return stack[0];
        }

        private static long signed(int sign, long number) {
            if (sign == NEGATIVE) return -number;
            return number == 0 ? 1 : 0;
        }

        private static long numberOf(int letter, Flight flight) {
            switch (letter) {
                case 'h': return flight.height;
                case 'v': return flight.speed;
                case 'n': return Integer.bitCount(flight.inLanes);
                case 'd': return Integer.bitCount(flight.differed);
                case 'm': return flight.mode;
                default: return flight.failed;
            }
        }

        private static long joined(int sign, long left, long right) {
            switch (sign) {
                case '|': return left != 0 || right != 0 ? 1 : 0;
                case '&': return left != 0 && right != 0 ? 1 : 0;
                case '<': return left < right ? 1 : 0;
                case '>': return left > right ? 1 : 0;
                case '=': return left == right ? 1 : 0;
                case '+': return left + right;
                case '-': return left - right;
                case '*': return left * right;
                default: return right == 0 ? 0 : left / right;
            }
        }
    }

    /** Faults as told; those that have come stay, since they count as told. */
    private static final class Faults {
        int size;
        final int[] sorts = new int[MOST_FAULTS];
        final int[] frames = new int[MOST_FAULTS];
        final int[] whiches = new int[MOST_FAULTS];
        final int[] cells = new int[MOST_FAULTS];
        final int[] bits = new int[MOST_FAULTS];

        void add(int sort, int frame, int which, int cell, int bit) {
            if (size >= MOST_FAULTS) return;
            sorts[size] = sort;
            frames[size] = frame;
            whiches[size] = which;
            cells[size] = cell;
            bits[size] = bit;
            size++;
        }

        void copyFrom(Faults other) {
            size = other.size;
            System.arraycopy(other.sorts, 0, sorts, 0, size);
            System.arraycopy(other.frames, 0, frames, 0, size);
            System.arraycopy(other.whiches, 0, whiches, 0, size);
            System.arraycopy(other.cells, 0, cells, 0, size);
            System.arraycopy(other.bits, 0, bits, 0, size);
        }
    }

    /** All that calls tell and no frame changes. */
    private static final class Plan {
        int laneCount = 3;
        // Which of the two is the program stands in the flight: so a proof can begin the new one, too.
        final Program[] programs = new Program[2];
        final Slots slots = new Slots();
        final int[] wordKind = new int[WORDS];
        final int[] wordSpan = new int[WORDS];
        int rowToAside = 3;
        int framesAside = 5;
        final Sensors sensors = new Sensors();
        int drag = 100;
        int gust = 0;
        final int[] low = new int[MODES];
        final int[] high = new int[MODES];
        final Rules rules = new Rules();
        final Faults faults = new Faults();
        int boxSize = 0;
        final int[] boxWords = new int[MOST_BOX];
        final int[] clockTime = new int[MOST_LANES];
        final int[] clockRate = new int[MOST_LANES];

        Plan() {
            programs[0] = new Program();
            programs[1] = new Program();
            for (int mode = 0; mode < MODES; mode++) {
                low[mode] = -100;
                high[mode] = 100;
            }
        }

        int readCells() {
            return programs[0].readCells() | programs[1].readCells();
        }

        void copyFrom(Plan other) {
            laneCount = other.laneCount;
            programs[0].copyFrom(other.programs[0]);
            programs[1].copyFrom(other.programs[1]);
            slots.copyFrom(other.slots);
            System.arraycopy(other.wordKind, 0, wordKind, 0, WORDS);
            System.arraycopy(other.wordSpan, 0, wordSpan, 0, WORDS);
            rowToAside = other.rowToAside;
            framesAside = other.framesAside;
            sensors.copyFrom(other.sensors);
            drag = other.drag;
            gust = other.gust;
            System.arraycopy(other.low, 0, low, 0, MODES);
            System.arraycopy(other.high, 0, high, 0, MODES);
            rules.copyFrom(other.rules);
            faults.copyFrom(other.faults);
            boxSize = other.boxSize;
            System.arraycopy(other.boxWords, 0, boxWords, 0, MOST_BOX);
            System.arraycopy(other.clockTime, 0, clockTime, 0, MOST_LANES);
            System.arraycopy(other.clockRate, 0, clockRate, 0, MOST_LANES);
        }
    }

    /** One lane as a frame leaves it; whether it is in stands in the flight. */
    private static final class Lane {
        final int[] cells = new int[CELLS];
        int row;
        int asideFor;
        int muteFor;
        int slowFor;

        void clear() {
            for (int i = 0; i < CELLS; i++) cells[i] = 0;
            row = 0;
            asideFor = 0;
            muteFor = 0;
            slowFor = 0;
        }

        void copyCells(Lane other) {
            System.arraycopy(other.cells, 0, cells, 0, CELLS);
        }

        void copyFrom(Lane other) {
            copyCells(other);
            row = other.row;
            asideFor = other.asideFor;
            muteFor = other.muteFor;
            slowFor = other.slowFor;
        }

        boolean isAlike(Lane other) {
            if (row != other.row || asideFor != other.asideFor) return false;
            for (int i = 0; i < CELLS; i++) {
                if (cells[i] != other.cells[i]) return false;
            }
            return true;
        }
    }

    /** What the lanes said in a frame and what came of it. */
    private static final class Words {
        final int[] said = new int[WORDS * MOST_LANES];
        final int[] saidBy = new int[WORDS];
        final int[] results = new int[WORDS];
        int resultSet;

        void clear() {
            for (int word = 0; word < WORDS; word++) {
                for (int lane = 0; lane < MOST_LANES && saidBy[word] != 0; lane++) said[word * MOST_LANES + lane] = 0;
                saidBy[word] = 0;
                results[word] = 0;
            }
            resultSet = 0;
        }

        void take(int word, int lane, int number) {
            said[word * MOST_LANES + lane] = number;
            saidBy[word] |= 1 << lane;
        }

        boolean isSaid(int word, int lane) {
            return (saidBy[word] >> lane & 1) == 1;
        }

        /** What a lane said of a word; 0: nothing. */
        int saidOf(int word, int lane) {
            return said[word * MOST_LANES + lane];
        }

        void settle(int word, int result) {
            results[word] = result;
            resultSet |= 1 << word;
        }

        boolean hasResult(int word) {
            return (resultSet >> word & 1) == 1;
        }

        void copyFrom(Words other) {
            System.arraycopy(other.said, 0, said, 0, WORDS * MOST_LANES);
            System.arraycopy(other.saidBy, 0, saidBy, 0, WORDS);
            System.arraycopy(other.results, 0, results, 0, WORDS);
            resultSet = other.resultSet;
        }
    }

    /** All that a frame changes, so that a proof flies on in a copy of it. */
    private static final class Flight {
        final Lane[] lanes = new Lane[MOST_LANES];
        int inLanes;
        final Words words = new Words();
        final int[] votedOfSort = new int[SORTS];
        final int[] toldLast = new int[MOST_SENSORS];
        int stuck = 0;
        int height = 0;
        int speed = 0;
        int lot = 0;
        int mover = 0;
        int mode = 0;
        int frame = 0;
        int differed = 0;
        int failed = 0;
        int newlyAside = 0;
        int active = 0;
        int due = NONE;

        Flight() {
            for (int i = 0; i < MOST_LANES; i++) lanes[i] = new Lane();
            inLanes = 7;
        }

        void renewLanes(int n) {
            for (int i = 0; i < MOST_LANES; i++) lanes[i].clear();
            inLanes = (1 << n) - 1;
        }

        boolean isIn(int lane) {
            return (inLanes >> lane & 1) == 1;
        }

        void flip(int lane, int cell, int bit) {
            lanes[lane].cells[cell] ^= 1 << bit;
        }

        boolean areLanesAlike(Flight other) {
            if (inLanes != other.inLanes) return false;
            for (int i = 0; i < MOST_LANES; i++) {
                if (!lanes[i].isAlike(other.lanes[i])) return false;
            }
            return true;
        }

        void copyFrom(Flight other) {
            for (int i = 0; i < MOST_LANES; i++) lanes[i].copyFrom(other.lanes[i]);
            inLanes = other.inLanes;
            words.copyFrom(other.words);
            System.arraycopy(other.votedOfSort, 0, votedOfSort, 0, SORTS);
            System.arraycopy(other.toldLast, 0, toldLast, 0, MOST_SENSORS);
            stuck = other.stuck;
            height = other.height;
            speed = other.speed;
            lot = other.lot;
            mover = other.mover;
            mode = other.mode;
            frame = other.frame;
            differed = other.differed;
            failed = other.failed;
            newlyAside = other.newlyAside;
            active = other.active;
            due = other.due;
        }
    }

    /** Takes a flight through a frame as the plan tells. */
    private static final class Pilot {
        // A step's place is never this far below 0, so it can stand for the part's failing.
        private static final int FAILS = -1000;

        private final Plan plan;
        private final long[] row = new long[MOST_SENSORS];
        private final long[] times = new long[MOST_LANES];

        Pilot(Plan plan) {
            this.plan = plan;
        }

        void flyFrame(Flight flight) {
            int wereIn = flight.inLanes;
            beginIfDue(flight);
            takeFaults(flight);
            readSensors(flight);
            runLanes(flight);
            voteWords(flight);
            countRows(flight);
            setMover(flight);
            moveBody(flight);
            bringBack(flight, wereIn);
            setMode(flight);
            flight.frame++;
            passHarm(flight);
        }

        private static void beginIfDue(Flight flight) {
            if (flight.due != flight.frame) return;
            flight.active = 1 - flight.active;
            flight.due = NONE;
        }

        private void takeFaults(Flight flight) {
            for (int i = 0; i < plan.faults.size; i++) {
                if (plan.faults.frames[i] == flight.frame) takeFault(flight, i);
            }
        }

        private void takeFault(Flight flight, int i) {
            int sort = plan.faults.sorts[i];
            int which = plan.faults.whiches[i];
            if (sort == STUCK) {
                flight.stuck |= 1 << which;
                return;
            }
            // The lanes may have become fewer since the fault was told.
            if (which >= plan.laneCount) return;
            if (sort == MUTE) {
                flight.lanes[which].muteFor = HARM_FRAMES;
            } else if (sort == SLOW) {
                flight.lanes[which].slowFor = HARM_FRAMES;
            } else {
                flight.flip(which, plan.faults.cells[i], plan.faults.bits[i]);
                int next = which + 1 < plan.laneCount ? which + 1 : 0;
                if (sort == TWIN) flight.flip(next, plan.faults.cells[i], plan.faults.bits[i]);
            }
        }

        private void readSensors(Flight flight) {
            for (int i = 0; i < plan.sensors.size; i++) flight.toldLast[i] = plan.sensors.tells(i, flight);
            for (int sort = 0; sort < SORTS; sort++) {
                int n = 0;
                for (int i = 0; i < plan.sensors.size; i++) {
                    if (plan.sensors.sorts[i] != sort) continue;
                    row[n] = flight.toldLast[i];
                    n++;
                }
                flight.votedOfSort[sort] = (int) middleOf(row, n);
            }
        }

        private void runLanes(Flight flight) {
            flight.words.clear();
            flight.failed = 0;
            Slots slots = plan.slots;
            for (int lane = 0; lane < plan.laneCount; lane++) {
                if (!flight.isIn(lane)) continue;
                int fewer = flight.lanes[lane].slowFor > 0 ? 1 : 0;
                for (int i = 0; i < slots.size; i++) {
                    if (!runPart(flight, lane, slots.parts[i], slots.ticks[i] - fewer)) flight.failed++;
                }
            }
        }

        /** Whether the part came to its end within the ticks. */
        private boolean runPart(Flight flight, int lane, int part, int ticks) {
            Program program = plan.programs[flight.active];
            int first = plan.slots.partFrom[part];
            int end = Math.min(plan.slots.partTo[part], program.size);
            int at = first;
            for (int tick = 0; tick < ticks; tick++) {
                if (at < first || at >= end) return true;
                at = takeStep(flight, lane, program, at);
                if (at == FAILS) return false;
            }
            return at < first || at >= end;
        }

        /** The place of the step to be taken next, or FAILS; isStep() has looked at every cell and word used here. */
        private static int takeStep(Flight flight, int lane, Program program, int at) {
            int[] cells = flight.lanes[lane].cells;
            int a = program.as[at];
            int b = program.bs[at];
            int c = program.cs[at];
            switch (program.acts[at]) {
                case SET: cells[a] = b; break;
                case ADD: cells[a] = cells[b] + cells[c]; break;
                case LESS: cells[a] = cells[b] - cells[c]; break;
                case TIMES: cells[a] = cells[b] * cells[c]; break;
                case BY:
                    if (cells[c] == 0) return FAILS;
                    cells[a] = cells[b] / cells[c];
                    break;
                case LEAST: cells[a] = Math.min(cells[b], cells[c]); break;
                case GREATEST: cells[a] = Math.max(cells[b], cells[c]); break;
                case LEAP: return cells[a] > 0 ? at + 1 + b : at + 1;
                case SENSE: cells[a] = flight.votedOfSort[b]; break;
                case SAY:
                    if (flight.lanes[lane].muteFor == 0) flight.words.take(b, lane, cells[a]);
                    break;
                default: return cells[a] > 0 ? at - b : at + 1;
            }
            return at + 1;
        }

        private void voteWords(Flight flight) {
            int speakers = 0;
            for (int lane = 0; lane < plan.laneCount; lane++) {
                if (flight.isIn(lane) && flight.lanes[lane].muteFor == 0) speakers |= 1 << lane;
            }
            int differed = 0;
            for (int word = 0; word < WORDS; word++) {
                if (flight.words.saidBy[word] == 0) continue;
                if (plan.wordKind[word] == ALIKE) voteAlike(flight.words, word, Integer.bitCount(speakers));
                else voteMiddle(flight.words, word);
                if (flight.words.hasResult(word)) differed |= unlikeOnes(flight.words, word, speakers);
            }
            if (flight.words.resultSet != 0) differed |= flight.inLanes & ~speakers;
            flight.differed = differed;
        }

        private void voteAlike(Words words, int word, int speakers) {
            for (int lane = 0; lane < plan.laneCount; lane++) {
                if (!words.isSaid(word, lane)) continue;
                int alike = 0;
                for (int other = 0; other < plan.laneCount; other++) {
                    if (words.isSaid(word, other) && words.saidOf(word, other) == words.saidOf(word, lane)) alike++;
                }
                if (2 * alike > speakers) words.settle(word, words.saidOf(word, lane));
            }
        }

        private void voteMiddle(Words words, int word) {
            int n = 0;
            for (int lane = 0; lane < plan.laneCount; lane++) {
                if (!words.isSaid(word, lane)) continue;
                row[n] = words.saidOf(word, lane);
                n++;
            }
            if (n > 0) words.settle(word, (int) middleOf(row, n));
        }

        private int unlikeOnes(Words words, int word, int speakers) {
            // Of numbers that have to be alike none may be away at all.
            long span = plan.wordKind[word] == ALIKE ? 0 : plan.wordSpan[word];
            int unlike = 0;
            for (int lane = 0; lane < plan.laneCount; lane++) {
                if ((speakers >> lane & 1) == 0) continue;
                long away = Math.abs((long) words.saidOf(word, lane) - words.results[word]);
                if (!words.isSaid(word, lane) || away > span) unlike |= 1 << lane;
            }
            return unlike;
        }

        private void countRows(Flight flight) {
            flight.newlyAside = 0;
            for (int lane = 0; lane < plan.laneCount; lane++) {
                Lane counted = flight.lanes[lane];
                counted.row = (flight.differed >> lane & 1) == 1 ? counted.row + 1 : 0;
                if (counted.row < plan.rowToAside || !flight.isIn(lane)) continue;
                if (Integer.bitCount(flight.inLanes) <= 1) continue;
                flight.inLanes &= ~(1 << lane);
                flight.newlyAside |= 1 << lane;
                counted.asideFor = 0;
            }
        }

        private void setMover(Flight flight) {
            int told = flight.words.hasResult(0) ? flight.words.results[0] : flight.mover;
            flight.mover = (int) brought(told, plan.low[flight.mode], plan.high[flight.mode]);
        }

        private void moveBody(Flight flight) {
            flight.lot = flight.lot * 1103515245 + 12345;
            int wind = (flight.lot >>> 16) % (2 * plan.gust + 1) - plan.gust;
            long speed = flight.speed;
            long held = plan.drag > 0 ? speed * Math.abs(speed) / plan.drag : 0;
            speed = brought(speed + flight.mover + wind - 10 - held, -MILLION, MILLION);
            long height = brought(flight.height + speed, -MILLION, MILLION);
            flight.speed = height < 0 ? 0 : (int) speed;
            flight.height = height < 0 ? 0 : (int) height;
        }

        private void bringBack(Flight flight, int wereIn) {
            for (int lane = 0; lane < plan.laneCount; lane++) {
                if ((wereIn >> lane & 1) == 1) continue;
                Lane waiting = flight.lanes[lane];
                waiting.asideFor++;
                if (waiting.asideFor < plan.framesAside) continue;
                for (int least = 0; least < plan.laneCount; least++) {
                    if (!flight.isIn(least)) continue;
                    waiting.copyCells(flight.lanes[least]);
                    break;
                }
                waiting.row = 0;
                waiting.asideFor = 0;
                flight.inLanes |= 1 << lane;
            }
        }

        private void setMode(Flight flight) {
            if (plan.rules.textFault != NONE) return;
            flight.mode = (int) brought(plan.rules.worked(flight), 0, MODES - 1);
        }

        private void passHarm(Flight flight) {
            for (int lane = 0; lane < plan.laneCount; lane++) {
                Lane harmed = flight.lanes[lane];
                if (harmed.muteFor > 0) harmed.muteFor--;
                if (harmed.slowFor > 0) harmed.slowFor--;
            }
        }

        /** The greatest difference of two clocks behind some rounds. */
        long clockSpread(int rounds) {
            int n = plan.laneCount;
            for (int lane = 0; lane < n; lane++) times[lane] = plan.clockTime[lane];
            for (int round = 0; round < rounds; round++) {
                for (int lane = 0; lane < n; lane++) {
                    times[lane] += plan.clockRate[lane];
                    row[lane] = times[lane];
                }
                long middle = middleOf(row, n);
                for (int lane = 0; lane < n; lane++) times[lane] += (middle - times[lane]) / 2;
            }
            long least = times[0];
            long greatest = times[0];
            for (int lane = 1; lane < n; lane++) {
                least = Math.min(least, times[lane]);
                greatest = Math.max(greatest, times[lane]);
            }
            return greatest - least;
        }
    }

    /** Flights beside the one flight, with and without a flipped bit. */
    private static final class Proofs {
        private final Plan plan;
        private final Pilot pilot;
        private final Flight plain = new Flight();
        private final Flight flipped = new Flight();
        private final int[] plainMover = new int[MOST_FATE_FRAMES];
        private final int[] plainAside = new int[MOST_FATE_FRAMES];
        int firstUnlike = NONE;
        int greatestUnlike = 0;
        int firstAside = NONE;

        Proofs(Plan plan, Pilot pilot) {
            this.plan = plan;
            this.pilot = pilot;
        }

        void flyPlain(Flight flight, int k) {
            plain.copyFrom(flight);
            for (int i = 0; i < k; i++) {
                pilot.flyFrame(plain);
                plainMover[i] = plain.mover;
                plainAside[i] = plain.newlyAside;
            }
        }

        /** Not to the end, it flies no further than the frame that settles the fate as REACHES. */
        void flyFlipped(Flight flight, int lane, int cell, int bit, int k, boolean toTheEnd) {
            firstUnlike = NONE;
            greatestUnlike = 0;
            firstAside = NONE;
            flipped.copyFrom(flight);
            flipped.flip(lane, cell, bit);
            for (int i = 0; i < k; i++) {
                pilot.flyFrame(flipped);
                int size = Math.abs(flipped.mover - plainMover[i]);
                if (size > 0 && firstUnlike == NONE) firstUnlike = i;
                if (size > 0 && !toTheEnd) return;
                if (size > greatestUnlike) greatestUnlike = size;
                boolean asideOnlySo = ((flipped.newlyAside & ~plainAside[i]) >> lane & 1) == 1;
                if (asideOnlySo && firstAside == NONE) firstAside = i;
            }
        }

        /** The fate of the flip flown last. */
        int fateOfFlip() {
            if (firstUnlike != NONE) return REACHES;
            if (firstAside != NONE) return SHOWS;
            return plain.areLanesAlike(flipped) ? DIES : HIDES;
        }

        /** Whether the box comes without a flip; the plain flight then stands where the search begins. */
        boolean givesBoxPlain(Flight flight) {
            plain.copyFrom(flight);
            flipped.copyFrom(flight);
            return givesBox(0);
        }

        /** Whether the plain flight, taken one frame on, says the box's word of it. */
        boolean keepsBox(int frame) {
            pilot.flyFrame(plain);
            return plain.mover == plan.boxWords[frame];
        }

        /** The first flip ahead of this frame that gives the box; what no step reads can not change a word. */
        int firstFlip(int frame, int readCells) {
            for (int lane = 0; lane < plan.laneCount; lane++) {
                for (int cell = 0; cell < CELLS; cell++) {
                    if ((readCells >> cell & 1) == 0) continue;
                    for (int bit = 0; bit < BITS; bit++) {
                        flipped.copyFrom(plain);
                        flipped.flip(lane, cell, bit);
                        if (givesBox(frame)) return 10000 * lane + 100 * cell + bit;
                    }
                }
            }
            return NONE;
        }

        private boolean givesBox(int frame) {
            for (int i = frame; i < plan.boxSize; i++) {
                pilot.flyFrame(flipped);
                if (flipped.mover != plan.boxWords[i]) return false;
            }
            return true;
        }
    }
}
