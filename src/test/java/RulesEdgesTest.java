import java.math.BigInteger;
import java.util.Arrays;

/** Terms 3, sentence by sentence: rules, faults and new programs at their edges. */
public final class RulesEdgesTest {
    private static final Due due = new Due();
    private static final int MIN = Integer.MIN_VALUE;
    // 2 to the power of 63, which as a long is the least one; and a number just below it.
    private static final String LEAST = "(32768*32768*32768*32768*8)", NEAR = "999999*999999*999999*9";

    private static int[] s(int act, int a, int b, int c) {
        return Due.s(act, a, b, c);
    }

    private static int faultOf(String text) {
        FlyerRoom x = new FlyerRoom();
        Due.write(x, text);
        return x.fault();
    }

    /** What a text tells, brought to 0 .. 3; the body stands at 0, three lanes are in. */
    private static int told(String text) {
        FlyerRoom x = new FlyerRoom();
        Due.write(x, text);
        due.is(text + " has no FAULT", x.fault(), -1);
        x.fly(1);
        return x.now(3);
    }

    private static void sixty() {
        due.sentence("RULES: a row of 60 characters at most");
        StringBuilder ones = new StringBuilder("1");
        while (ones.length() < 59) ones.append("+0");
        due.is("59 of them", ones.length(), 59);
        due.is("59 characters", told(ones.toString()), 1);
        FlyerRoom x = new FlyerRoom();
        Due.write(x, ones + " ");
        due.is("60 characters", x.fault(), -1);
        due.is("the 61st", x.write('?'), -4);
        due.is("it does not stand there", x.fault(), -1);
        due.is("nor is it counted", x.count(5), 60);
        FlyerRoom y = new FlyerRoom();
        Due.write(y, ones + "+");
        due.is("60 characters, too early", y.fault(), 601);
        StringBuilder blanks = new StringBuilder();
        for (int i = 0; i < 60; i++) blanks.append(' ');
        due.is("60 blanks, too early", faultOf(blanks.toString()), 601);
        due.is("59 blanks and a unit", faultOf(blanks.substring(1) + "3"), -1);
        due.is("none at all, too early", faultOf(""), 1);
    }

    private static void digits() {
        due.sentence("UNIT: digits (1 .. 6)");
        due.is("one", told("3"), 3);
        due.is("six", faultOf("123456"), -1);
        due.is("999999", told("999999=999*1001"), 1);
        due.is("100000", told("100000=1000*100"), 1);
        due.is("012345", told("012345=12345"), 1);
        due.is("six noughts ahead", told("000002"), 2);
        due.is("0", told("0"), 0);
        due.sentence("2: a seventh digit (told at the first)");
        due.is("seven", faultOf("1234567"), 2);
        due.is("seven, all 0", faultOf("0000000"), 2);
        due.is("eight", faultOf("12345678"), 2);
        due.is("behind a blank", faultOf("  1234567"), 22);
        due.is("the second number", faultOf("123456+1234567"), 72);
        due.is("in brackets", faultOf("(1-1234567)"), 32);
        due.is("behind a sign", faultOf("-1234567"), 12);
        due.is("though the text ends early behind it", faultOf("(1234567"), 12);
        due.is("though another fault stands behind it", faultOf("1234567?"), 2);
        due.is("not where no number can stand", faultOf("h1234567"), 11);
        due.is("another fault ahead of it", faultOf("?1234567"), 1);
    }

    private static void truths() {
        due.sentence("Truths are 1, 0");
        String[] ones = {"1<2", "2>1", "2=2", "1|0", "0|1", "1|1", "5|0", "0|5", "-1|0", "1&1", "5&7", "-1&-2", "!0"};
        for (String one : ones) due.is("(" + one + ")+1", told("(" + one + ")+1"), 2);
        String[] noughts = {"2<1", "2<2", "1>2", "2>2", "1=2", "2=1", "0|0", "0&0", "1&0", "0&1", "5&0", "0&5", "!1", "!5", "!-1"};
        for (String nought : noughts) due.is("(" + nought + ")+2", told("(" + nought + ")+2"), 2);
        due.is("a number alone is no truth", told("3"), 3);
        due.is("nor is one in brackets", told("(3)"), 3);
        due.is("!!3", told("!!3+1"), 2);
        due.is("| of three", told("(0|0|7)+1"), 2);
        due.is("& of three, the last 0", told("(1&7&0)+1"), 1);
        due.is("& of three, the first 0", told("(0&7&1)+1"), 1);
    }

    private static void order() {
        due.sentence("VALUE: BOTHS with | between; BOTH: HELDS with &; HELD: SUM, or SUM < SUM, SUM > SUM, SUM = SUM; SUM: TERMS with + or -; TERM: UNITS with * or /");
        due.is("& ahead of |", told("1|1&0"), 1);
        due.is("< ahead of &", told("2&1<1"), 0);
        due.is("+ ahead of <", told("1+1<1"), 0);
        due.is("* ahead of +", told("1+1*2"), 3);
        due.is("- ahead of *", told("5+-1*2"), 3);
        due.is("! ahead of *", told("!0*2"), 2);
        due.is("! ahead of <", told("!5<1"), 1);
        due.is("from the left: -", told("9-4-3"), 2);
        due.is("from the left: /", told("12/3/2"), 2);
        due.is("from the left: / and *", told("3/2*2"), 2);
        due.is("from the left: * and /", told("3*2/2"), 3);
        due.is("from the left: - and +", told("3-2+1"), 2);
        due.is("one comparing at most", faultOf("1<2<3"), 31);
        due.is("one comparing at most, =", faultOf("1=1=1"), 31);
        due.is("in brackets another", told("(1<2)<3"), 1);
    }

    private static void longs() {
        due.sentence("longs wrap");
        due.is("a number near the greatest", told(NEAR + ">0"), 1);
        due.is("+", told(NEAR + "+999999*999999*999999<0"), 1);
        due.is("-", told("-" + NEAR + "-999999*999999*999999>0"), 1);
        due.is("*", told(LEAST + "<0"), 1);
        due.is("* by 2", told(LEAST + "*2=0"), 1);
        due.is("- UNIT of the least", told("-" + LEAST + "<0"), 1);
        due.is("the least by -1", told(LEAST + "/-1<0"), 1);
        due.is("the least less 1", told(LEAST + "-1>0"), 1);
        due.is("no int: 2147483648", told("65536*32768>0"), 1);
        due.is("brought as a long: 4294967296", told("65536*65536"), 3);
        due.is("brought as a long: -4294967296", told("-65536*65536"), 0);
        due.sentence("/ cut toward 0, by 0 is 0");
        due.is("7 / 2", told("7/2"), 3);
        due.is("-7 / 2", told("-7/2+5"), 2);
        due.is("7 / -2", told("7/-2+5"), 2);
        due.is("-7 / -2", told("-7/-2"), 3);
        due.is("-1 / 2", told("-1/2+1"), 1);
        due.is("5 / 0", told("5/0+2"), 2);
        due.is("-5 / 0", told("-5/0+2"), 2);
        due.is("0 / 0", told("0/0+2"), 2);
        due.is("by what is worked to 0", told("5/(1-1)=0"), 1);
    }

    private static void letters() {
        due.sentence("h HEIGHT, v SPEED, n LANES IN, d LANES that DIFFERED this FRAME, m THE MODE, f PARTS that FAILED this FRAME (in all LANES)");
        FlyerRoom x = Due.runners(4, 2, s(9, 0, 0, 0), s(4, 1, 1, 1));
        x.body(500, 12);
        x.aside(1, 50);
        x.harm(0, 1, 3, 0, 4);
        String[] texts = {"h=501", "v=1", "n=4", "d=0", "f=4", "m=0"};
        x.image(0);
        for (String text : texts) {
            x.from(0);
            Due.write(x, text);
            x.fly(1);
            due.is("FRAME 0: " + text, x.now(3), 1);
        }
        String[] later = {"n=3", "d=1", "f=4", "h=491", "v=0-10"};
        for (String text : later) {
            x.from(0);
            x.fly(1);
            x.body(501, 0);
            Due.write(x, text);
            x.fly(1);
            due.is("FRAME 1: " + text, x.now(3), 1);
        }
        String[] last = {"n=3", "d=0", "f=3", "m=0"};
        for (String text : last) {
            x.from(0);
            x.fly(2);
            Due.write(x, text);
            x.fly(1);
            due.is("FRAME 2: " + text, x.now(3), 1);
        }
        for (int mode = 0; mode < 4; mode++) {
            FlyerRoom y = new FlyerRoom();
            Due.write(y, "" + mode);
            y.fly(1);
            y.erase();
            Due.write(y, "3-m");
            y.fly(1);
            due.is("m, ahead of what is told: " + mode, y.now(3), 3 - mode);
        }
    }

    private static void blanks() {
        due.sentence("blanks anywhere but within digits");
        String[] good = {" 1", "1 ", "  1  ", "1 + 1", "1+ 1", "1 +1", "( 1 )", " ( 1 ) ", "! 1", "- 1", "! - ! 1", "1 < 2", "1 & 2", "1 | 2",
            "h ", " h", "h * v", "( ( 1 ) ) ", "12 + 34"};
        for (String text : good) due.is("\"" + text + "\"", faultOf(text), -1);
        due.is("within digits", faultOf("1 2"), 21);
        due.is("within digits, more", faultOf("123   456"), 61);
        due.is("each part is short", faultOf("1234 567"), 51);
        due.is("blanks are no digits", faultOf("123456 + 654321"), -1);
        int[] others = {0, 9, 10, 13, 31, 127};
        for (int other : others) {
            FlyerRoom x = new FlyerRoom();
            x.write(other);
            x.write('1');
            due.is("character " + other + " is no blank", x.fault(), 1);
        }
    }

    private static void charactersThatStand() {
        due.sentence("FAULT (of the text): 10 times the place of the first character that can not stand there and 1");
        // What can stand at the beginning and behind a unit, of all characters.
        String first = " 0123456789hvndmf(!-", behind = " |&<>=+-*/0123456789";
        for (int c = 0; c < 128; c++) {
            FlyerRoom x = new FlyerRoom();
            x.write(c);
            int early = first.indexOf(c) < 0 ? 1 : Character.isDigit(c) || "hvndmf".indexOf(c) >= 0 ? -1 : 11;
            due.is("character " + c, x.fault(), early);
            FlyerRoom y = new FlyerRoom();
            y.write('1');
            y.write(c);
            int later = behind.indexOf(c) < 0 ? 11 : c == ' ' || Character.isDigit(c) ? -1 : 21;
            due.is("1 and character " + c, y.fault(), later);
            FlyerRoom z = new FlyerRoom();
            Due.write(z, "(h");
            z.write(c);
            boolean stands = c == ')' || c != 0 && " |&<>=+-*/".indexOf(c) >= 0;
            due.is("(h and character " + c, z.fault(), c == ')' ? -1 : stands ? 31 : 21);
        }
        due.sentence("(its length: too early)");
        due.is("1+", faultOf("1+"), 21);
        due.is("1+ and a blank", faultOf("1+ "), 31);
        due.is("(1", faultOf("(1"), 21);
        due.is("((1)", faultOf("((1)"), 41);
        due.is("!", faultOf("!"), 11);
        due.is("(", faultOf("("), 11);
        due.is("1<", faultOf("1<"), 21);
        due.is("1&", faultOf("1&"), 21);
        due.is("1|", faultOf("1|"), 21);
        due.is("1*", faultOf("1*"), 21);
        due.sentence("the first character");
        due.is("two of them", faultOf("1?+?"), 11);
        due.is(") without (", faultOf("1)+("), 11);
        due.is("()", faultOf("()"), 11);
        due.sentence("FAULT of the RULES. NONE: none.");
        FlyerRoom x = new FlyerRoom();
        String text = "!(1)|0";
        int[] want = {11, 21, 31, -1, 51, -1};
        for (int i = 0; i < text.length(); i++) {
            x.write(text.charAt(i));
            due.is(text.substring(0, i + 1), x.fault(), want[i]);
        }
        x.erase();
        due.is("erased", x.fault(), 1);
    }

    private static void brackets() {
        due.sentence("3: the 9th ( open");
        due.is("eight", faultOf("((((((((1))))))))"), -1);
        due.is("eight, told", told("((((((((3))))))))"), 3);
        due.is("nine", faultOf("(((((((((1)))))))))"), 83);
        due.is("the ninth as the last character", faultOf("((((((((("), 83);
        due.is("eight, too early", faultOf("(((((((("), 81);
        due.is("ten", faultOf("(((((((((("), 83);
        due.is("nine in all, eight open", faultOf("(((((((1)+(1)))))))"), -1);
        due.is("eight and once more eight", faultOf("((((((((1))))))))*((((((((2))))))))"), -1);
        due.is("eight and once more nine", faultOf("((((((((1))))))))*(((((((((2"), 263);
        due.is("one closed, then the ninth", faultOf("((((((((1)+((1"), 123);
        due.is("with signs and blanks between", faultOf("( ( -( ( !( ( ( ( 1+(1"), 203);
        due.is("not where no ( can stand", faultOf("((((((((1("), 91);
    }

    private static void eightFaults() {
        due.sentence("FAULTS, 8 at most, as they come, due at a FRAME");
        FlyerRoom x = new FlyerRoom();
        for (int i = 0; i < 8; i++) due.is("FAULT " + i, x.harm(0, i % 2 == 0 ? 1 : 0, 0, i, 0), i);
        due.is("a 9th", x.harm(0, 0, 0, 8, 0), -4);
        x.fly(1);
        for (int i = 0; i < 8; i++) due.is("FRAME 0, cell " + i, x.cell(0, i), i % 2);
        x.fly(1);
        for (int i = 0; i < 8; i++) due.is("FRAME 1, cell " + i, x.cell(0, i), 1);
        x.fly(5);
        for (int i = 0; i < 8; i++) due.is("each comes once, cell " + i, x.cell(0, i), 1);
        due.is("those that came count", x.harm(0, 20, 0, 8, 0), -4);
        FlyerRoom y = new FlyerRoom();
        y.harm(0, 9999, 0, 0, 0);
        y.piece(0, 1, 1, 0);
        y.begin(9999, y.seal(1));
        for (int i = 0; i < 99; i++) y.fly(100);
        y.fly(99);
        due.is("the last FRAME of which a FAULT can be told is next", y.now(4), 9999);
        due.is("not yet", y.cell(0, 0), 0);
        due.is("nor the new program", y.count(1), 0);
        due.is("told for it", y.harm(0, 9999, 0, 1, 0), 1);
        y.fly(1);
        due.is("both came", y.cell(0, 0) + y.cell(0, 1), 2);
        due.is("the new program, too", y.count(1), 1);
        due.is("now each FRAME that can be told is gone", y.harm(0, 9999, 0, 2, 0), -3);
        due.is("for begin, too", y.begin(9999, y.seal(1)), -3);
    }

    private static void flips() {
        due.sentence("0 FLIP: a bit of a CELL of a LANE (also ASIDE)");
        for (int bit = 0; bit < 32; bit++) {
            FlyerRoom x = new FlyerRoom();
            x.harm(0, 0, 2, 11, bit);
            x.harm(0, 1, 2, 11, bit);
            x.fly(1);
            due.is("bit " + bit, x.cell(2, 11), 1 << bit);
            due.is("bit " + bit + ", of no other lane", x.cell(0, 11) + x.cell(1, 11), 0);
            x.fly(1);
            due.is("bit " + bit + ", back", x.cell(2, 11), 0);
        }
        FlyerRoom twice = new FlyerRoom();
        twice.harm(0, 0, 0, 0, 5);
        twice.harm(0, 0, 0, 0, 5);
        twice.fly(1);
        due.is("twice in a FRAME", twice.cell(0, 0), 0);
        FlyerRoom aside = Due.sayers(3);
        aside.aside(1, 3);
        aside.harm(0, 0, 1, 0, 4);
        aside.harm(0, 1, 1, 5, 31);
        aside.fly(2);
        due.is("of a lane ASIDE", aside.cell(1, 5), MIN);
        due.sentence("1 TWIN: likewise in it and the next LANE (behind the last the first)");
        for (int lanes = 1; lanes <= 4; lanes++) {
            for (int lane = 0; lane < lanes; lane++) {
                FlyerRoom x = new FlyerRoom();
                x.lanes(lanes);
                x.harm(1, 0, lane, 3, 7);
                x.fly(1);
                int next = lane == lanes - 1 ? 0 : lane + 1;
                for (int l = 0; l < lanes; l++) {
                    // Of a single lane the next one is itself: its bit is flipped and flipped back.
                    boolean flipped = lanes > 1 && (l == lane || l == next);
                    due.is("TWIN of " + lane + " of " + lanes + ", lane " + l, x.cell(l, 3), flipped ? 128 : 0);
                }
            }
        }
    }

    private static void stuck() {
        due.sentence("2 STUCK: a SENSOR from then on");
        for (int which = 0; which < 6; which++) {
            FlyerRoom x = new FlyerRoom();
            for (int i = 0; i < 6; i++) x.sensor(i % 2, 10 + i, 0, 0);
            x.harm(2, 1, which, 0, 0);
            x.body(1000, 100);
            x.fly(1);
            x.body(3000, 300);
            x.fly(1);
            // Of the three of a sort the stuck one tells much less, so the lesser of the other two is the middle one.
            int[] truths = {3000, 300};
            int sort = which % 2, other = 1 - sort;
            int lesser = which < 2 ? 12 + sort : 10 + sort;
            due.is("SENSOR " + which, x.sensed(sort), truths[sort] + lesser);
            due.is("SENSOR " + which + ", the other sort", x.sensed(other), truths[other] + 12 + other);
        }
    }

    private static void tenFrames() {
        due.sentence("3 MUTE: a LANE for 10 FRAMES");
        FlyerRoom x = Due.sayers(1);
        x.harm(3, 2, 0, 0, 0);
        for (int frame = 0; frame < 15; frame++) {
            x.fly(1);
            boolean mute = frame >= 2 && frame < 12;
            due.is("FRAME " + frame, x.voted(0, 1), mute ? 0 : 1);
            due.is("FRAMES yet behind FRAME " + frame, x.lane(0, 3), mute ? 11 - frame : 0);
        }
        due.sentence("MUTE LANES run, but say nothing.");
        FlyerRoom run = Due.runners(1, 2, s(0, 0, 5, 0), s(9, 0, 3, 0));
        run.harm(3, 0, 0, 0, 0);
        run.fly(1);
        due.is("it ran", run.cell(0, 0), 5);
        due.is("and said nothing", run.voted(3, 2), 0);
        due.sentence("4 SLOW: a LANE for 10 FRAMES");
        FlyerRoom y = Due.runners(1, 1, s(9, 0, 0, 0));
        y.harm(4, 2, 0, 0, 0);
        for (int frame = 0; frame < 15; frame++) {
            y.fly(1);
            boolean slow = frame >= 2 && frame < 12;
            due.is("FRAME " + frame, y.now(7), slow ? 1 : 0);
            due.is("FRAMES yet behind FRAME " + frame, y.lane(0, 4), slow ? 11 - frame : 0);
        }
        due.sentence("(also told anew: from then)");
        for (int sort = 3; sort <= 4; sort++) {
            FlyerRoom z = Due.sayers(1);
            z.harm(sort, 0, 0, 0, 0);
            z.harm(sort, 9, 0, 0, 0);
            z.harm(sort, 19, 0, 0, 0);
            for (int frame = 0; frame < 31; frame++) {
                z.fly(1);
                int yet = frame < 9 ? 9 - frame : frame < 19 ? 18 - frame : frame < 29 ? 28 - frame : 0;
                due.is("sort " + sort + ", FRAME " + frame, z.lane(0, sort), yet);
            }
        }
    }

    private static void notThere() {
        due.sentence("(Of a LANE that is not there then: nothing comes.)");
        for (int lanes = 1; lanes <= 3; lanes++) {
            for (int sort = 0; sort < 5; sort++) {
                if (sort == 2) continue;
                FlyerRoom x = new FlyerRoom();
                x.lanes(4);
                x.harm(sort, 0, lanes, 4, 4);
                x.lanes(lanes);
                FlyerRoom y = new FlyerRoom();
                y.lanes(4);
                y.harm(sort, 5, lanes, 4, 4);
                y.lanes(lanes);
                x.fly(1);
                y.fly(1);
                due.is("sort " + sort + ", just not there of " + lanes, x.digest(), y.digest());
            }
        }
        FlyerRoom again = new FlyerRoom();
        again.lanes(4);
        again.harm(0, 0, 3, 4, 4);
        again.lanes(1);
        again.lanes(4);
        again.fly(1);
        due.is("there again", again.cell(3, 4), 16);
    }

    private static int sealOf(int[]... steps) {
        BigInteger h = BigInteger.valueOf(17), by = BigInteger.valueOf(31);
        for (int[] step : steps) {
            for (int v : step) h = h.multiply(by).add(BigInteger.valueOf(v));
        }
        return h.multiply(by).add(BigInteger.valueOf(steps.length)).intValue();
    }

    private static void newPrograms() {
        due.sentence("THE NEW PROGRAM (60 STEPS, none at first) is written beside");
        FlyerRoom x = Due.runners(1, 40, s(9, 0, 0, 0));
        due.is("none at first", x.count(6), 0);
        for (int i = 1; i <= 60; i++) due.is("piece " + i, x.piece(0, 0, i, 0), i);
        due.is("a 61st", x.piece(0, 0, 0, 0), -4);
        due.is("THE PROGRAM is as it was", x.count(1), 1);
        x.part(0, 59, 60);
        x.begin(0, x.seal(1));
        x.fly(1);
        due.is("the 60th runs", x.cell(0, 0), 60);
        due.is("59 more steps behind the old one", x.piece(0, 0, 0, 0), 2);
        due.sentence("THE SEAL of a PROGRAM of n STEPS: h = 17; then h = 31 h + v for each act, a, b, c, then n (an int that wraps)");
        int[][] steps = new int[60][];
        FlyerRoom y = new FlyerRoom();
        due.is("no STEPS", y.seal(1), 527);
        for (int i = 0; i < 60; i++) {
            steps[i] = s(i % 2 == 0 ? 0 : 9, i % 12, i % 2 == 0 ? MIN + i : i % 8, i % 3 == 0 ? Integer.MAX_VALUE : -i);
            y.piece(steps[i][0], steps[i][1], steps[i][2], steps[i][3]);
            due.is(i + 1 + " STEPS", y.seal(1), sealOf(Arrays.copyOf(steps, i + 1)));
        }
        for (int[] step : steps) y.step(step[0], step[1], step[2], step[3]);
        due.is("the same of THE PROGRAM", y.seal(0), y.seal(1));
    }

    private static void begins() {
        due.sentence("Told its SEAL rightly it BEGINS at a FRAME: then it is the PROGRAM, the old one stands beside in its place. (PARTS, SLOTS stay as they are.)");
        FlyerRoom x = Due.runners(2, 3, s(0, 0, 3, 0), s(9, 0, 0, 0), s(0, 0, 0, 0));
        x.piece(0, 0, 9, 0);
        x.piece(9, 0, 0, 0);
        int old = x.seal(0), right = x.seal(1);
        due.is("off by one", x.begin(0, right + 1), -3);
        due.is("off by one, below", x.begin(0, right - 1), -3);
        due.is("the sign", x.begin(0, -right), -3);
        due.is("0", x.begin(0, 0), -3);
        due.is("the old one's", x.begin(0, old), -3);
        due.is("no wrong seal begins it", x.fly(1), 3);
        due.is("FRAME 0 is gone", x.begin(0, right), -3);
        due.is("the next FRAME", x.begin(1, right), 1);
        due.is("THE PROGRAM until then", x.count(1), 3);
        due.is("it begins", x.fly(1), 9);
        due.is("in all lanes", x.cell(1, 0), 9);
        due.is("seal(0)", x.seal(0), right);
        due.is("seal(1)", x.seal(1), old);
        due.is("count(1)", x.count(1), 2);
        due.is("count(6)", x.count(6), 3);
        due.is("slots stay", x.count(2), 1);
        due.is("parts stay, and end beyond the program", x.now(7), 0);
        due.sentence("(Told anew: then.)");
        due.is("in three frames", x.begin(5, old), 1);
        due.is("in one, told anew", x.begin(3, old), 1);
        due.is("not yet", x.fly(1), 9);
        due.is("then", x.fly(1), 3);
        due.is("and not once more", x.fly(5), 3);
        due.is("in nine", x.begin(18, right), 1);
        due.is("wrongly told anew", x.begin(10, right + 1), -3);
        due.is("what was told holds", x.fly(9), 3);
        due.is("still", x.fly(1), 9);
    }

    private static void leaves() {
        due.sentence("THE NEW PROGRAM has no STEPS (what stood beside goes), none is due: how many it had.");
        FlyerRoom x = Due.runners(1, 2, s(0, 0, 3, 0), s(9, 0, 0, 0));
        due.is("none", x.leave(), 0);
        for (int i = 0; i < 60; i++) x.piece(0, 0, i, 0);
        x.begin(0, x.seal(1));
        due.is("60", x.leave(), 60);
        due.is("its seal", x.seal(1), 527);
        due.is("none is due", x.fly(1), 3);
        due.is("there is room again", x.piece(0, 0, 7, 0), 1);
        x.begin(1, x.seal(1));
        x.fly(1);
        due.is("what stood beside", x.leave(), 2);
        due.is("THE PROGRAM stays", x.count(1), 1);
    }

    public static void main(String[] args) {
        sixty();
        digits();
        truths();
        order();
        longs();
        letters();
        blanks();
        charactersThatStand();
        brackets();
        eightFaults();
        flips();
        stuck();
        tenFrames();
        notThere();
        newPrograms();
        begins();
        leaves();
        due.end();
    }
}
